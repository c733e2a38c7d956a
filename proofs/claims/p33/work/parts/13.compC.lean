/-- as Rd.of, for a method of a class that is not plainly named -/
theorem Rd.ofF {l : Launch} {y : MethodName} {bytes : ByteArray} {n : Nat} {ret : Option FieldType} {rm : Room} {Wd : State → Heap → Prop} {As : List Value} {v : Value} (hy : plainFor y = true) (hn : (lg_sl As).length ≤ n)
    (body : ∀ (p : Program) (e : Env) (s : State) (m : MethodId) (args : Array Value) (below : List Frame) (meth : Method) (c : Code) (ls : Array Slot), CallFix p m c bytes n s args wsL_law y.cls → meth.sig.returnType = ret → meth.locks = false → Wd s s.heap → lv_has ls n (lv_args 0 As) →
      W p l e rm s m args below meth c s.heap [] 0 0 (MQ below (k2_QcV v) args s 0 0 (fun _ => False)) (F0 m 0 ls [])) : Rd l y bytes n ret rm Wd As v := by
  unfold Rd Met
  refine MetFree.of_bodySF (code := bytes) (maxLocals := n) (ret := ret) hy ?_ ?_
  · intro args s m h hn
    obtain ⟨meth, c, h1, h2, h3, h4, h5, h6, -, -⟩ := Cond.code_spec hn (atoms_spec (ws := wq y bytes n ret) h _ List.mem_cons_self)
    exact ⟨meth, c, h1, h2, h3, h4, h5, h6⟩
  · intro p e s m args below meth c s₁ B hml hP _
    have hh0 : s₁.heap = s.heap := by rw [B.state]; rfl
    obtain ⟨rfl, hw⟩ := hP
    have hl := lv_entry As (n := n) hn
    have key := body p e s m _ below meth c _ ⟨B.exec, B.bytes, hml, findClass_of_methodNamed B.named, fun w h => atoms_spec (ws := wq y bytes n ret) B.pre w (List.mem_cons_of_mem _ h)⟩ B.returns B.notSynchronized hw hl
    rw [← lg_entry_eq] at key
    obtain ⟨t, a1, o, b1, b2, b3⟩ := key s₁ hh0 (Stand.of_body B)
    exact ⟨t, o, a1, b1, b2, ⟨b3.1, b3.2⟩⟩
set_option maxHeartbeats 4000000 in
set_option maxRecDepth 100000 in
theorem c_J9_floorMod_7cf53 (l : Launch) (x y : Int32) (hy : ¬ y = 0) : Rd l yJ9_floorMod_7cf53 cJ9_floorMod_7cf53 3 (some .int) ({ frames := 0, cells := 0, slots := 0, locals := 0 } : Room) (fun _ _ => True) [.int (x), .int (y)] (.int (flm x y)) := by
  refine Rd.ofF (by decide +kernel) (Nat.le_of_ble_eq_true rfl) ?_
  intro p e s m args below meth c ls hC hr hlocks hB hl
  have hx := hC.1
  have hb := hC.2.1
  have hl : lv_has ls 3 [(0, .int (x)), (1, .int (y))] := hl
  refine lv_iload_n hx hb dJ9_floorMod_7cf53_0 rfl (lv_at hl 0 rfl) ?_
  refine lv_iload_n hx hb dJ9_floorMod_7cf53_1 rfl (lv_at hl 1 rfl) ?_
  refine lv_irem hx hb dJ9_floorMod_7cf53_2 (hy) ?_
  refine lv_istore_n (lv' := [(2, .int (rmi x y)), (0, .int (x)), (1, .int (y))]) hx hb dJ9_floorMod_7cf53_3 rfl hl (by decide) rfl (fun ls hl => ?_)
  refine lv_iload_n hx hb dJ9_floorMod_7cf53_4 rfl (lv_at hl 1 rfl) ?_
  refine lv_iload_n hx hb dJ9_floorMod_7cf53_5 rfl (lv_at hl 2 rfl) ?_
  refine lv_ixor hx hb dJ9_floorMod_7cf53_6 ?_
  refine lv_if_ge (tgt := 18) hx hb dJ9_floorMod_7cf53_7 (by decide) (fun c1 => ?_) (fun c1 => ?_)
  · refine lv_iload_n hx hb dJ9_floorMod_7cf53_18 rfl (lv_at hl 0 rfl) ?_
    exact rd_i hC hr hlocks dJ9_floorMod_7cf53_19 (by unfold flm; rw [if_pos c1])
  · refine lv_iload_n hx hb dJ9_floorMod_7cf53_10 rfl (lv_at hl 0 rfl) ?_
    refine lv_if_eq (tgt := 18) hx hb dJ9_floorMod_7cf53_11 (by decide) (fun c2 => ?_) (fun c2 => ?_)
    · refine lv_iload_n hx hb dJ9_floorMod_7cf53_18 rfl (lv_at hl 0 rfl) ?_
      exact rd_i hC hr hlocks dJ9_floorMod_7cf53_19 (by unfold flm; rw [if_neg c1, if_pos c2])
    · refine lv_iload_n hx hb dJ9_floorMod_7cf53_14 rfl (lv_at hl 0 rfl) ?_
      refine lv_iload_n hx hb dJ9_floorMod_7cf53_15 rfl (lv_at hl 2 rfl) ?_
      refine lv_iadd hx hb dJ9_floorMod_7cf53_16 ?_
      exact rd_i hC hr hlocks dJ9_floorMod_7cf53_17 (by unfold flm; rw [if_neg c1, if_neg c2])
set_option maxHeartbeats 4000000 in
set_option maxRecDepth 100000 in
theorem c_X0_strike (l : Launch) (D : va_G) (cI cQ : ClassId) (a : Nat → Nat) (S : bS) {T R : Nat} {t : Nat} (hI : BI S T R) (ht : t < T) : Wr l yX0_strike cX0_strike 4 none ({ frames := 4, cells := 0, slots := 0, locals := 88 } : Room) (BW D cI cQ a S) (BW D cI cQ a (bStr S R t)) (inB a) [.ref (a 13), .int (nI t)] none 0 0 := by
  refine Wr.of (by decide) (Nat.le_of_ble_eq_true rfl) ?_
  intro p e s m args below meth c ls hC hr hlocks hB hS hl
  have hx := hC.1
  have hb := hC.2.1
  have hA : ∀ q, (inB a) q → (inB a) q := fun _ h => h
  obtain ⟨hT, hR, hT8, hR6⟩ := id hI
  have hl : lv_has ls 4 [(0, .ref (a 13)), (1, .int (nI t))] := hl
  refine lv_aload_n hx hb dX0_strike_0 rfl (lv_at hl 0 rfl) ?_
  refine lv_iload_n hx hb dX0_strike_1 rfl (lv_at hl 1 rfl) ?_
  refine k_X0_priceNow hC (c_X0_priceNow l D cI cQ a S hI (t := t) (by omega)) hB rfl ⟨rfl, rfl⟩ ⟨Nat.le_of_ble_eq_true rfl, Nat.le_of_ble_eq_true rfl⟩ ⟨Nat.zero_le _, Nat.zero_le _⟩ hl.1 rfl (Nat.le_of_ble_eq_true rfl) dX0_strike_2 ?_
  refine lv_istore_n (lv' := [(2, .int (bPr S R t)), (0, .ref (a 13)), (1, .int (nI t))]) hx hb dX0_strike_5 rfl hl (by decide) rfl (fun ls hl => ?_)
  refine lv_iconst (v := 0) hx hb dX0_strike_6 (by decide) ?_
  refine lv_istore_n (lv' := [(3, .int (0)), (2, .int (bPr S R t)), (0, .ref (a 13)), (1, .int (nI t))]) hx hb dX0_strike_7 rfl hl (by decide) rfl (fun ls hl => ?_)
  refine loopU (P := fun i => ∀ (H : Heap) (locs : List Loc), BW D cI cQ a (bSt1 S (bPr S R t) t i) s H → va_S (inB a) s.heap H locs → ∀ ls : Array Slot, lv_has ls 4 [(3, .int (nI i)), (2, .int (bPr S R t)), (0, .ref (a 13)), (1, .int (nI t))] → W p l e ({ frames := 4, cells := 0, slots := 0, locals := 88 } : Room) s m args below meth c H locs 0 0 (MQ below (qW none (BW D cI cQ a (bStr S R t)) (inB a)) args s 0 0 (inB a)) (F0 m 8 ls [])) (R) ?_ ?_ 0 (by omega) s.heap [] hB hS ls (by first | exact lv_sub hl [0, 1, 2, 3] rfl | (simpa using lv_sub hl [0, 1, 2, 3] rfl))
  · intro H locs hB hS ls hl
    refine lv_iload_n hx hb dX0_strike_8 rfl (lv_at hl 0 rfl) ?_
    refine lv_aload_n hx hb dX0_strike_9 rfl (lv_at hl 2 rfl) ?_
    refine gB_traderCount hC hB ((bSt1_row S _ t 2 (by decide) (by decide) _).trans hR) dX0_strike_10 ?_
    refine jge (i := R) (j := R) (tgt := 50) hC dX0_strike_13 (by decide) rfl rfl (by omega) (by omega) (fun c1 => ?_) (fun c1 => ?_)
    · refine lv_aload_n hx hb dX0_strike_50 rfl (lv_at hl 2 rfl) ?_
      refine gB_silence hC hB dX0_strike_51 ?_
      refine lv_iload_n hx hb dX0_strike_54 rfl (lv_at hl 3 rfl) ?_
      refine lv_iconst (v := 0) hx hb dX0_strike_55 (by decide) ?_
      refine sB_silence (t) hC hB rfl (by omega) hS hA dX0_strike_56 (fun H locs hB hS => ?_)
      refine lv_aload_n hx hb dX0_strike_57 rfl (lv_at hl 2 rfl) ?_
      refine gB_strokes hC hB dX0_strike_58 ?_
      refine lv_iload_n hx hb dX0_strike_61 rfl (lv_at hl 3 rfl) ?_
      refine lv_dup2_11 hx hb dX0_strike_62 rfl rfl ?_
      refine lB_strokes (v := (bSt1 S (bPr S R t) t R) 4 t) (t) hC hB rfl (by omega) (by rw [up2_ne _ _ (by omega)]) dX0_strike_63 ?_
      refine lv_iconst (v := 1) hx hb dX0_strike_64 (by decide) ?_
      refine lv_iadd hx hb dX0_strike_65 ?_
      refine sB_strokes (t) hC hB rfl (by omega) hS hA dX0_strike_66 (fun H locs hB hS => ?_)
      refine lv_aload_n hx hb dX0_strike_67 rfl (lv_at hl 2 rfl) ?_
      refine gB_untilStroke hC hB dX0_strike_68 ?_
      refine lv_iload_n hx hb dX0_strike_71 rfl (lv_at hl 3 rfl) ?_
      refine lv_aload_n hx hb dX0_strike_72 rfl (lv_at hl 2 rfl) ?_
      refine gB_period hC hB dX0_strike_73 ?_
      refine lv_iload_n hx hb dX0_strike_76 rfl (lv_at hl 3 rfl) ?_
      refine lB_period (v := (bSt1 S (bPr S R t) t R) 1 t) (t) hC hB rfl (by omega) (by rw [up2_ne _ _ (by omega), up2_ne _ _ (by omega)]) dX0_strike_77 ?_
      refine sB_untilStroke (t) hC hB rfl (by omega) hS hA dX0_strike_78 (fun H locs hB hS => ?_)
      exact wr_v hC hr hlocks mov_B (hB) hS dX0_strike_79
    · exfalso; omega
  · intro i hi ih H locs hB hS ls hl
    refine lv_iload_n hx hb dX0_strike_8 rfl (lv_at hl 0 rfl) ?_
    refine lv_aload_n hx hb dX0_strike_9 rfl (lv_at hl 2 rfl) ?_
    refine gB_traderCount hC hB ((bSt1_row S _ t 2 (by decide) (by decide) _).trans hR) dX0_strike_10 ?_
    refine jge (i := i) (j := R) (tgt := 50) hC dX0_strike_13 (by decide) rfl rfl (by omega) (by omega) (fun c5 => ?_) (fun c5 => ?_)
    · exfalso; omega
    · refine lv_aload_n hx hb dX0_strike_16 rfl (lv_at hl 2 rfl) ?_
      refine gB_purse hC hB dX0_strike_17 ?_
      refine lv_iload_n hx hb dX0_strike_20 rfl (lv_at hl 0 rfl) ?_
      refine lv_dup2_11 hx hb dX0_strike_21 rfl rfl ?_
      refine lB_purse (i) hC hB rfl (by omega) rfl dX0_strike_22 ?_
      refine lv_iload_n hx hb dX0_strike_23 rfl (lv_at hl 1 rfl) ?_
      refine lv_aload_n hx hb dX0_strike_24 rfl (lv_at hl 2 rfl) ?_
      refine gB_held hC hB dX0_strike_25 ?_
      refine lv_iload_n hx hb dX0_strike_28 rfl (lv_at hl 0 rfl) ?_
      refine lB_row (i) hC hB rfl (by omega) dX0_strike_29 ?_
      refine lv_iload_n hx hb dX0_strike_30 rfl (lv_at hl 3 rfl) ?_
      refine lB_held (i) (t) hC hB (by omega) rfl (by omega) rfl dX0_strike_31 ?_
      refine lv_imul hx hb dX0_strike_32 ?_
      refine lv_iadd hx hb dX0_strike_33 ?_
      refine sB_purse (i) hC hB rfl (by omega) hS hA dX0_strike_34 (fun H locs hB hS => ?_)
      refine lv_aload_n hx hb dX0_strike_35 rfl (lv_at hl 2 rfl) ?_
      refine gB_held hC hB dX0_strike_36 ?_
      refine lv_iload_n hx hb dX0_strike_39 rfl (lv_at hl 0 rfl) ?_
      refine lB_row (i) hC hB rfl (by omega) dX0_strike_40 ?_
      refine lv_iload_n hx hb dX0_strike_41 rfl (lv_at hl 3 rfl) ?_
      refine lv_iconst (v := 0) hx hb dX0_strike_42 (by decide) ?_
      refine sB_held (i) (t) hC hB (by omega) rfl (by omega) hS hA dX0_strike_43 (fun H locs hB hS => ?_)
      refine lv_iinc (v := nI (i + 1)) (lv' := [(3, .int (nI (i + 1))), (2, .int (bPr S R t)), (0, .ref (a 13)), (1, .int (nI t))]) hx hb dX0_strike_44 hl (k := 0) rfl (ninc i) (by decide) rfl (fun ls hl => ?_)
      refine lv_goto (tgt := 8) hx hb dX0_strike_47 (by decide) ?_
      exact ih H locs (hB) hS ls (lv_sub hl [0, 1, 2, 3] rfl)
set_option maxHeartbeats 4000000 in
set_option maxRecDepth 100000 in
theorem c_X0_goOneSecond (l : Launch) (D : va_G) (cI cQ : ClassId) (a : Nat → Nat) (S : bS) {T R : Nat} (hI : BI S T R) : Wr l yX0_goOneSecond cX0_goOneSecond 3 (some .int) ({ frames := 5, cells := 0, slots := 0, locals := 111 } : Room) (BW D cI cQ a S) (BW D cI cQ a (bGo S R T)) (inB a) [.ref (a 13)] (some (.int (bGc S R T))) 0 0 := by
  refine Wr.of (by decide) (Nat.le_of_ble_eq_true rfl) ?_
  intro p e s m args below meth c ls hC hr hlocks hB hS hl
  have hx := hC.1
  have hb := hC.2.1
  have hA : ∀ q, (inB a) q → (inB a) q := fun _ h => h
  obtain ⟨hT, hR, hT8, hR6⟩ := id hI
  have hl : lv_has ls 3 [(0, .ref (a 13))] := hl
  refine lv_aload_n hx hb dX0_goOneSecond_0 rfl (lv_at hl 0 rfl) ?_
  refine lv_dup hx hb dX0_goOneSecond_1 rfl ?_
  refine gB_second hC hB rfl dX0_goOneSecond_2 ?_
  refine lv_iconst (v := 1) hx hb dX0_goOneSecond_5 (by decide) ?_
  refine lv_iadd hx hb dX0_goOneSecond_6 ?_
  refine pB_second hC hB hS hA dX0_goOneSecond_7 (fun H locs hB hS => ?_)
  refine lv_iconst (v := 0) hx hb dX0_goOneSecond_10 (by decide) ?_
  refine lv_istore_n (lv' := [(1, .int (0)), (0, .ref (a 13))]) hx hb dX0_goOneSecond_11 rfl hl (by decide) rfl (fun ls hl => ?_)
  refine lv_iconst (v := 0) hx hb dX0_goOneSecond_12 (by decide) ?_
  refine lv_istore_n (lv' := [(2, .int (0)), (1, .int (0)), (0, .ref (a 13))]) hx hb dX0_goOneSecond_13 rfl hl (by decide) rfl (fun ls hl => ?_)
  refine loopU (P := fun i => ∀ (H : Heap) (locs : List Loc), BW D cI cQ a (bGo S R i) s H → va_S (inB a) s.heap H locs → ∀ ls : Array Slot, lv_has ls 3 [(2, .int (nI i)), (1, .int (bGc S R i)), (0, .ref (a 13))] → W p l e ({ frames := 5, cells := 0, slots := 0, locals := 111 } : Room) s m args below meth c H locs 0 0 (MQ below (qW (some (.int (bGc S R T))) (BW D cI cQ a (bGo S R T)) (inB a)) args s 0 0 (inB a)) (F0 m 14 ls [])) (T) ?_ ?_ 0 (by omega) H locs hB hS ls (by first | exact lv_sub hl [0, 1, 2] rfl | (simpa using lv_sub hl [0, 1, 2] rfl))
  · intro H locs hB hS ls hl
    refine lv_iload_n hx hb dX0_goOneSecond_14 rfl (lv_at hl 0 rfl) ?_
    refine lv_aload_n hx hb dX0_goOneSecond_15 rfl (lv_at hl 2 rfl) ?_
    refine gB_towerCount hC hB ((BI_go hI).1) dX0_goOneSecond_16 ?_
    refine jge (i := T) (j := T) (tgt := 69) hC dX0_goOneSecond_19 (by decide) rfl rfl (by omega) (by omega) (fun c1 => ?_) (fun c1 => ?_)
    · refine lv_iload_n hx hb dX0_goOneSecond_69 rfl (lv_at hl 1 rfl) ?_
      exact wr_i hC hr hlocks mov_B (hB) hS dX0_goOneSecond_70 (by rfl)
    · exfalso; omega
  · intro i hi ih H locs hB hS ls hl
    refine lv_iload_n hx hb dX0_goOneSecond_14 rfl (lv_at hl 0 rfl) ?_
    refine lv_aload_n hx hb dX0_goOneSecond_15 rfl (lv_at hl 2 rfl) ?_
    refine gB_towerCount hC hB ((BI_go hI).1) dX0_goOneSecond_16 ?_
    refine jge (i := i) (j := T) (tgt := 69) hC dX0_goOneSecond_19 (by decide) rfl rfl (by omega) (by omega) (fun c2 => ?_) (fun c2 => ?_)
    · exfalso; omega
    · refine lv_aload_n hx hb dX0_goOneSecond_22 rfl (lv_at hl 2 rfl) ?_
      refine gB_untilStroke hC hB dX0_goOneSecond_23 ?_
      refine lv_iload_n hx hb dX0_goOneSecond_26 rfl (lv_at hl 0 rfl) ?_
      refine lB_untilStroke (i) hC hB rfl (by omega) rfl dX0_goOneSecond_27 ?_
      refine lv_iconst (v := 1) hx hb dX0_goOneSecond_28 (by decide) ?_
      refine lv_icmp_gt (tgt := 43) hx hb dX0_goOneSecond_29 (by decide) (fun c3 => ?_) (fun c3 => ?_)
      · refine lv_aload_n hx hb dX0_goOneSecond_43 rfl (lv_at hl 2 rfl) ?_
        refine gB_untilStroke hC hB dX0_goOneSecond_44 ?_
        refine lv_iload_n hx hb dX0_goOneSecond_47 rfl (lv_at hl 0 rfl) ?_
        refine lv_dup2_11 hx hb dX0_goOneSecond_48 rfl rfl ?_
        refine lB_untilStroke (i) hC hB rfl (by omega) rfl dX0_goOneSecond_49 ?_
        refine lv_iconst (v := 1) hx hb dX0_goOneSecond_50 (by decide) ?_
        refine lv_isub hx hb dX0_goOneSecond_51 ?_
        refine sB_untilStroke (i) hC hB rfl (by omega) hS hA dX0_goOneSecond_52 (fun H locs hB hS => ?_)
        refine lv_aload_n hx hb dX0_goOneSecond_53 rfl (lv_at hl 2 rfl) ?_
        refine gB_silence hC hB dX0_goOneSecond_54 ?_
        refine lv_iload_n hx hb dX0_goOneSecond_57 rfl (lv_at hl 0 rfl) ?_
        refine lv_dup2_11 hx hb dX0_goOneSecond_58 rfl rfl ?_
        refine lB_silence (v := (bGo S R i) 2 i) (i) hC hB rfl (by omega) (by rw [up2_ne _ _ (by omega)]) dX0_goOneSecond_59 ?_
        refine lv_iconst (v := 1) hx hb dX0_goOneSecond_60 (by decide) ?_
        refine lv_iadd hx hb dX0_goOneSecond_61 ?_
        refine sB_silence (i) hC hB rfl (by omega) hS hA dX0_goOneSecond_62 (fun H locs hB hS => ?_)
        refine lv_iinc (v := nI (i + 1)) (lv' := [(2, .int (nI (i + 1))), (1, .int (bGc S R i)), (0, .ref (a 13))]) hx hb dX0_goOneSecond_63 hl (k := 0) rfl (ninc i) (by decide) rfl (fun ls hl => ?_)
        refine lv_goto (tgt := 14) hx hb dX0_goOneSecond_66 (by decide) ?_
        have e6 : bGc S R (i + 1) = bGc S R i := by rw [bGc_keep c3] <;> rfl
        exact ih H locs (by rw [bGo_keep c3]; exact hB) hS ls (by rw [e6]; exact lv_sub hl [0, 1, 2] rfl)
      · refine lv_aload_n hx hb dX0_goOneSecond_32 rfl (lv_at hl 2 rfl) ?_
        refine lv_iload_n hx hb dX0_goOneSecond_33 rfl (lv_at hl 0 rfl) ?_
        refine kw_X0_strike hC (c_X0_strike l D cI cQ a (bGo S R i) (BI_go hI) (t := i) (by omega)) hB rfl ⟨rfl, rfl⟩ ⟨Nat.le_of_ble_eq_true rfl, Nat.le_of_ble_eq_true rfl⟩ ⟨Nat.le_of_ble_eq_true rfl, Nat.le_of_ble_eq_true rfl⟩ hS hA hl.1 rfl (Nat.le_of_ble_eq_true rfl) dX0_goOneSecond_34 (fun H locs hB hS => ?_)
        refine lv_iinc (v := (bGc S R i) + 1) (lv' := [(1, .int ((bGc S R i) + 1)), (2, .int (nI i)), (0, .ref (a 13))]) hx hb dX0_goOneSecond_37 hl (k := 1) rfl (rfl) (by decide) rfl (fun ls hl => ?_)
        refine lv_goto (tgt := 63) hx hb dX0_goOneSecond_40 (by decide) ?_
        refine lv_iinc (v := nI (i + 1)) (lv' := [(2, .int (nI (i + 1))), (1, .int ((bGc S R i) + 1)), (0, .ref (a 13))]) hx hb dX0_goOneSecond_63 hl (k := 1) rfl (ninc i) (by decide) rfl (fun ls hl => ?_)
        refine lv_goto (tgt := 14) hx hb dX0_goOneSecond_66 (by decide) ?_
        have e7 : bGc S R (i + 1) = (bGc S R i) + 1 := by rw [bGc_str c3] <;> rfl
        exact ih H locs (by rw [bGo_str c3]; exact hB) hS ls (by rw [e7]; exact lv_sub hl [0, 1, 2] rfl)
set_option maxHeartbeats 4000000 in
set_option maxRecDepth 100000 in
theorem c_X0_pass (l : Launch) (D : va_G) (cI cQ : ClassId) (a : Nat → Nat) (S : bS) {T R : Nat} {k : Nat} (hI : BI S T R) (hk1 : 1 ≤ k) (hk9 : k ≤ 60) : Wr l yX0_pass cX0_pass 4 (some .int) ({ frames := 6, cells := 0, slots := 0, locals := 133 } : Room) (BW D cI cQ a S) (BW D cI cQ a (bPa S T R k)) (inB a) [.ref (a 13), .int (nI k)] (some (.int (bPc S T R k))) 0 0 := by
  refine Wr.of (by decide) (Nat.le_of_ble_eq_true rfl) ?_
  intro p e s m args below meth c ls hC hr hlocks hB hS hl
  have hx := hC.1
  have hb := hC.2.1
  have hA : ∀ q, (inB a) q → (inB a) q := fun _ h => h
  obtain ⟨hT, hR, hT8, hR6⟩ := id hI
  have hl : lv_has ls 4 [(0, .ref (a 13)), (1, .int (nI k))] := hl
  refine lv_iload_n hx hb dX0_pass_0 rfl (lv_at hl 1 rfl) ?_
  refine kn_X0_requirePassable hC (c_X0_requirePassable l (k := k) (by omega) (by omega)) mov_T trivial rfl ⟨rfl, rfl⟩ ⟨Nat.le_of_ble_eq_true rfl, Nat.le_of_ble_eq_true rfl⟩ ⟨Nat.zero_le _, Nat.zero_le _⟩ hl.1 rfl (Nat.le_of_ble_eq_true rfl) dX0_pass_1 ?_
  refine lv_iconst (v := 0) hx hb dX0_pass_4 (by decide) ?_
  refine lv_istore_n (lv' := [(2, .int (0)), (0, .ref (a 13)), (1, .int (nI k))]) hx hb dX0_pass_5 rfl hl (by decide) rfl (fun ls hl => ?_)
  refine lv_iconst (v := 0) hx hb dX0_pass_6 (by decide) ?_
  refine lv_istore_n (lv' := [(3, .int (0)), (2, .int (0)), (0, .ref (a 13)), (1, .int (nI k))]) hx hb dX0_pass_7 rfl hl (by decide) rfl (fun ls hl => ?_)
  refine loopU (P := fun i => ∀ (H : Heap) (locs : List Loc), BW D cI cQ a (bPa S T R i) s H → va_S (inB a) s.heap H locs → ∀ ls : Array Slot, lv_has ls 4 [(3, .int (nI i)), (2, .int (bPc S T R i)), (0, .ref (a 13)), (1, .int (nI k))] → W p l e ({ frames := 6, cells := 0, slots := 0, locals := 133 } : Room) s m args below meth c H locs 0 0 (MQ below (qW (some (.int (bPc S T R k))) (BW D cI cQ a (bPa S T R k)) (inB a)) args s 0 0 (inB a)) (F0 m 8 ls [])) (k) ?_ ?_ 0 (by omega) s.heap [] hB hS ls (by first | exact lv_sub hl [0, 1, 2, 3] rfl | (simpa using lv_sub hl [0, 1, 2, 3] rfl))
  · intro H locs hB hS ls hl
    refine lv_iload_n hx hb dX0_pass_8 rfl (lv_at hl 0 rfl) ?_
    refine lv_iload_n hx hb dX0_pass_9 rfl (lv_at hl 3 rfl) ?_
    refine jge (i := k) (j := k) (tgt := 26) hC dX0_pass_10 (by decide) rfl rfl (by omega) (by omega) (fun c1 => ?_) (fun c1 => ?_)
    · refine lv_iload_n hx hb dX0_pass_26 rfl (lv_at hl 1 rfl) ?_
      exact wr_i hC hr hlocks mov_B (hB) hS dX0_pass_27 (by rfl)
    · exfalso; omega
  · intro i hi ih H locs hB hS ls hl
    refine lv_iload_n hx hb dX0_pass_8 rfl (lv_at hl 0 rfl) ?_
    refine lv_iload_n hx hb dX0_pass_9 rfl (lv_at hl 3 rfl) ?_
    refine jge (i := i) (j := k) (tgt := 26) hC dX0_pass_10 (by decide) rfl rfl (by omega) (by omega) (fun c2 => ?_) (fun c2 => ?_)
    · exfalso; omega
    · refine lv_iload_n hx hb dX0_pass_13 rfl (lv_at hl 1 rfl) ?_
      refine lv_aload_n hx hb dX0_pass_14 rfl (lv_at hl 2 rfl) ?_
      refine kw_X0_goOneSecond hC (c_X0_goOneSecond l D cI cQ a (bPa S T R i) (BI_pa hI _)) hB rfl ⟨rfl, rfl⟩ ⟨Nat.le_of_ble_eq_true rfl, Nat.le_of_ble_eq_true rfl⟩ ⟨Nat.le_of_ble_eq_true rfl, Nat.le_of_ble_eq_true rfl⟩ hS hA hl.1 rfl (Nat.le_of_ble_eq_true rfl) dX0_pass_15 (fun H locs hB hS => ?_)
      refine lv_iadd hx hb dX0_pass_18 ?_
      refine lv_istore_n (lv' := [(2, .int ((bPc S T R i) + (bGc (bPa S T R i) R T))), (3, .int (nI i)), (0, .ref (a 13)), (1, .int (nI k))]) hx hb dX0_pass_19 rfl hl (by decide) rfl (fun ls hl => ?_)
      refine lv_iinc (v := nI (i + 1)) (lv' := [(3, .int (nI (i + 1))), (2, .int ((bPc S T R i) + (bGc (bPa S T R i) R T))), (0, .ref (a 13)), (1, .int (nI k))]) hx hb dX0_pass_20 hl (k := 1) rfl (ninc i) (by decide) rfl (fun ls hl => ?_)
      refine lv_goto (tgt := 8) hx hb dX0_pass_23 (by decide) ?_
      exact ih H locs (hB) hS ls (lv_sub hl [0, 1, 2, 3] rfl)
set_option maxHeartbeats 4000000 in
set_option maxRecDepth 100000 in
theorem c_X0_addTrader (l : Launch) (D : va_G) (cI cQ : ClassId) (a : Nat → Nat) (S : bS) {T R : Nat} (hI : BI S T R) (hlt : R < 6) : Wr l yX0_addTrader cX0_addTrader 2 (some .int) ({ frames := 0, cells := 0, slots := 0, locals := 0 } : Room) (BW D cI cQ a S) (BW D cI cQ a (up2 (up2 S 5 R 100) 6 2 (nI (R + 1)))) (inB a) [.ref (a 13)] (some (.int (nI R))) 0 0 := by
  refine Wr.of (by decide) (Nat.le_of_ble_eq_true rfl) ?_
  intro p e s m args below meth c ls hC hr hlocks hB hS hl
  have hx := hC.1
  have hb := hC.2.1
  have hA : ∀ q, (inB a) q → (inB a) q := fun _ h => h
  obtain ⟨hT, hR, hT8, hR6⟩ := id hI
  have hl : lv_has ls 2 [(0, .ref (a 13))] := hl
  refine lv_aload_n hx hb dX0_addTrader_0 rfl (lv_at hl 0 rfl) ?_
  refine gB_traderCount hC hB hR dX0_addTrader_1 ?_
  refine lv_bipush (v := 6) hx hb dX0_addTrader_4 (by decide) ?_
  refine jlt (i := R) (j := 6) (tgt := 19) hC dX0_addTrader_6 (by decide) rfl rfl (by omega) (by omega) (fun c1 => ?_) (fun c1 => ?_)
  · refine lv_aload_n hx hb dX0_addTrader_19 rfl (lv_at hl 0 rfl) ?_
    refine gB_traderCount hC hB hR dX0_addTrader_20 ?_
    refine lv_istore_n (lv' := [(1, .int (nI R)), (0, .ref (a 13))]) hx hb dX0_addTrader_23 rfl hl (by decide) rfl (fun ls hl => ?_)
    refine lv_aload_n hx hb dX0_addTrader_24 rfl (lv_at hl 1 rfl) ?_
    refine gB_purse hC hB dX0_addTrader_25 ?_
    refine lv_iload_n hx hb dX0_addTrader_28 rfl (lv_at hl 0 rfl) ?_
    refine lv_bipush (v := 100) hx hb dX0_addTrader_29 (by decide) ?_
    refine sB_purse (R) hC hB rfl (by omega) hS hA dX0_addTrader_31 (fun H locs hB hS => ?_)
    refine lv_aload_n hx hb dX0_addTrader_32 rfl (lv_at hl 1 rfl) ?_
    refine lv_iload_n hx hb dX0_addTrader_33 rfl (lv_at hl 0 rfl) ?_
    refine lv_iconst (v := 1) hx hb dX0_addTrader_34 (by decide) ?_
    refine xadd (v := nI (R + 1)) hC dX0_addTrader_35 (nadd (i := R) (j := 1) rfl rfl) ?_
    refine pB_traderCount hC hB hS hA dX0_addTrader_36 (fun H locs hB hS => ?_)
    refine lv_iload_n hx hb dX0_addTrader_39 rfl (lv_at hl 0 rfl) ?_
    exact wr_i hC hr hlocks mov_B (hB) hS dX0_addTrader_40 (by rfl)
  · exfalso; omega
set_option maxHeartbeats 4000000 in
set_option maxRecDepth 100000 in
theorem c_X0_buy (l : Launch) (D : va_G) (cI cQ : ClassId) (a : Nat → Nat) (S : bS) {T R : Nat} {r t k : Nat} (hI : BI S T R) (hr9 : r < R) (ht : t < T) (hk1 : 1 ≤ k) (hk9 : k ≤ 9) (h1 : S (7 + r) t + nI k ≤ 9) (h2 : bPr S R t * nI k ≤ S 5 r) : Wr l yX0_buy cX0_buy 5 (some .int) ({ frames := 4, cells := 0, slots := 0, locals := 88 } : Room) (BW D cI cQ a S) (BW D cI cQ a (up2 (up2 S 5 r (S 5 r - bPr S R t * nI k)) (7 + r) t (S (7 + r) t + nI k))) (inB a) [.ref (a 13), .int (nI r), .int (nI t), .int (nI k)] (some (.int (bPr S R t * nI k))) 0 0 := by
  refine Wr.of (by decide) (Nat.le_of_ble_eq_true rfl) ?_
  intro p e s m args below meth c ls hC hr hlocks hB hS hl
  have hx := hC.1
  have hb := hC.2.1
  have hA : ∀ q, (inB a) q → (inB a) q := fun _ h => h
  obtain ⟨hT, hR, hT8, hR6⟩ := id hI
  have hl : lv_has ls 5 [(0, .ref (a 13)), (1, .int (nI r)), (2, .int (nI t)), (3, .int (nI k))] := hl
  refine lv_aload_n hx hb dX0_buy_0 rfl (lv_at hl 0 rfl) ?_
  refine lv_iload_n hx hb dX0_buy_1 rfl (lv_at hl 1 rfl) ?_
  refine kn_X0_requireTrader hC (c_X0_requireTrader l D cI cQ a S hI (r := r) (by omega)) hB rfl ⟨rfl, rfl⟩ ⟨Nat.le_of_ble_eq_true rfl, Nat.le_of_ble_eq_true rfl⟩ ⟨Nat.zero_le _, Nat.zero_le _⟩ hl.1 rfl (Nat.le_of_ble_eq_true rfl) dX0_buy_2 ?_
  refine lv_aload_n hx hb dX0_buy_5 rfl (lv_at hl 0 rfl) ?_
  refine lv_iload_n hx hb dX0_buy_6 rfl (lv_at hl 2 rfl) ?_
  refine kn_X0_requireTower hC (c_X0_requireTower l D cI cQ a S hI (t := t) (by omega)) hB rfl ⟨rfl, rfl⟩ ⟨Nat.le_of_ble_eq_true rfl, Nat.le_of_ble_eq_true rfl⟩ ⟨Nat.zero_le _, Nat.zero_le _⟩ hl.1 rfl (Nat.le_of_ble_eq_true rfl) dX0_buy_7 ?_
  refine lv_iload_n hx hb dX0_buy_10 rfl (lv_at hl 3 rfl) ?_
  refine kn_X0_requireTradable hC (c_X0_requireTradable l (k := k) (by omega) (by omega)) mov_T trivial rfl ⟨rfl, rfl⟩ ⟨Nat.le_of_ble_eq_true rfl, Nat.le_of_ble_eq_true rfl⟩ ⟨Nat.zero_le _, Nat.zero_le _⟩ hl.1 rfl (Nat.le_of_ble_eq_true rfl) dX0_buy_11 ?_
  refine lv_aload_n hx hb dX0_buy_14 rfl (lv_at hl 0 rfl) ?_
  refine lv_iload_n hx hb dX0_buy_15 rfl (lv_at hl 2 rfl) ?_
  refine k_X0_priceNow hC (c_X0_priceNow l D cI cQ a S hI (t := t) (by omega)) hB rfl ⟨rfl, rfl⟩ ⟨Nat.le_of_ble_eq_true rfl, Nat.le_of_ble_eq_true rfl⟩ ⟨Nat.zero_le _, Nat.zero_le _⟩ hl.1 rfl (Nat.le_of_ble_eq_true rfl) dX0_buy_16 ?_
  refine lv_iload_n hx hb dX0_buy_19 rfl (lv_at hl 3 rfl) ?_
  refine lv_imul hx hb dX0_buy_20 ?_
  refine lv_istore (lv' := [(4, .int ((bPr S R t) * (nI k))), (0, .ref (a 13)), (1, .int (nI r)), (2, .int (nI t)), (3, .int (nI k))]) hx hb dX0_buy_21 hl (by decide) rfl (fun ls hl => ?_)
  refine lv_aload_n hx hb dX0_buy_23 rfl (lv_at hl 1 rfl) ?_
  refine gB_held hC hB dX0_buy_24 ?_
  refine lv_iload_n hx hb dX0_buy_27 rfl (lv_at hl 2 rfl) ?_
  refine lB_row (r) hC hB rfl (by omega) dX0_buy_28 ?_
  refine lv_iload_n hx hb dX0_buy_29 rfl (lv_at hl 3 rfl) ?_
  refine lB_held (r) (t) hC hB (by omega) rfl (by omega) rfl dX0_buy_30 ?_
  refine lv_iload_n hx hb dX0_buy_31 rfl (lv_at hl 4 rfl) ?_
  refine lv_iadd hx hb dX0_buy_32 ?_
  refine lv_bipush (v := 9) hx hb dX0_buy_33 (by decide) ?_
  refine lv_icmp_le (tgt := 48) hx hb dX0_buy_35 (by decide) (fun c1 => ?_) (fun c1 => ?_)
  · refine lv_aload_n hx hb dX0_buy_48 rfl (lv_at hl 1 rfl) ?_
    refine gB_purse hC hB dX0_buy_49 ?_
    refine lv_iload_n hx hb dX0_buy_52 rfl (lv_at hl 2 rfl) ?_
    refine lB_purse (r) hC hB rfl (by omega) rfl dX0_buy_53 ?_
    refine lv_iload hx hb dX0_buy_54 (lv_at hl 0 rfl) ?_
    refine lv_icmp_ge (tgt := 69) hx hb dX0_buy_56 (by decide) (fun c2 => ?_) (fun c2 => ?_)
    · refine lv_aload_n hx hb dX0_buy_69 rfl (lv_at hl 1 rfl) ?_
      refine gB_purse hC hB dX0_buy_70 ?_
      refine lv_iload_n hx hb dX0_buy_73 rfl (lv_at hl 2 rfl) ?_
      refine lv_dup2_11 hx hb dX0_buy_74 rfl rfl ?_
      refine lB_purse (r) hC hB rfl (by omega) rfl dX0_buy_75 ?_
      refine lv_iload hx hb dX0_buy_76 (lv_at hl 0 rfl) ?_
      refine lv_isub hx hb dX0_buy_78 ?_
      refine sB_purse (r) hC hB rfl (by omega) hS hA dX0_buy_79 (fun H locs hB hS => ?_)
      refine lv_aload_n hx hb dX0_buy_80 rfl (lv_at hl 1 rfl) ?_
      refine gB_held hC hB dX0_buy_81 ?_
      refine lv_iload_n hx hb dX0_buy_84 rfl (lv_at hl 2 rfl) ?_
      refine lB_row (r) hC hB rfl (by omega) dX0_buy_85 ?_
      refine lv_iload_n hx hb dX0_buy_86 rfl (lv_at hl 3 rfl) ?_
      refine lv_dup2_11 hx hb dX0_buy_87 rfl rfl ?_
      refine lB_held (v := S (7 + r) t) (r) (t) hC hB (by omega) rfl (by omega) (by rw [up2_ne _ _ (by omega)]) dX0_buy_88 ?_
      refine lv_iload_n hx hb dX0_buy_89 rfl (lv_at hl 4 rfl) ?_
      refine lv_iadd hx hb dX0_buy_90 ?_
      refine sB_held (r) (t) hC hB (by omega) rfl (by omega) hS hA dX0_buy_91 (fun H locs hB hS => ?_)
      refine lv_iload hx hb dX0_buy_92 (lv_at hl 0 rfl) ?_
      exact wr_i hC hr hlocks mov_B (hB) hS dX0_buy_94 (by rfl)
    · exfalso; exact c2 h2
  · exfalso; exact c1 h1
set_option maxHeartbeats 4000000 in
set_option maxRecDepth 100000 in
theorem c_X0_sell (l : Launch) (D : va_G) (cI cQ : ClassId) (a : Nat → Nat) (S : bS) {T R : Nat} {r t k : Nat} (hI : BI S T R) (hr9 : r < R) (ht : t < T) (hk1 : 1 ≤ k) (hk9 : k ≤ 9) (h1 : -9 ≤ S (7 + r) t - nI k) : Wr l yX0_sell cX0_sell 5 (some .int) ({ frames := 4, cells := 0, slots := 0, locals := 88 } : Room) (BW D cI cQ a S) (BW D cI cQ a (up2 (up2 S 5 r (S 5 r + bPr S R t * nI k)) (7 + r) t (S (7 + r) t - nI k))) (inB a) [.ref (a 13), .int (nI r), .int (nI t), .int (nI k)] (some (.int (bPr S R t * nI k))) 0 0 := by
  refine Wr.of (by decide) (Nat.le_of_ble_eq_true rfl) ?_
  intro p e s m args below meth c ls hC hr hlocks hB hS hl
  have hx := hC.1
  have hb := hC.2.1
  have hA : ∀ q, (inB a) q → (inB a) q := fun _ h => h
  obtain ⟨hT, hR, hT8, hR6⟩ := id hI
  have hl : lv_has ls 5 [(0, .ref (a 13)), (1, .int (nI r)), (2, .int (nI t)), (3, .int (nI k))] := hl
  refine lv_aload_n hx hb dX0_sell_0 rfl (lv_at hl 0 rfl) ?_
  refine lv_iload_n hx hb dX0_sell_1 rfl (lv_at hl 1 rfl) ?_
  refine kn_X0_requireTrader hC (c_X0_requireTrader l D cI cQ a S hI (r := r) (by omega)) hB rfl ⟨rfl, rfl⟩ ⟨Nat.le_of_ble_eq_true rfl, Nat.le_of_ble_eq_true rfl⟩ ⟨Nat.zero_le _, Nat.zero_le _⟩ hl.1 rfl (Nat.le_of_ble_eq_true rfl) dX0_sell_2 ?_
  refine lv_aload_n hx hb dX0_sell_5 rfl (lv_at hl 0 rfl) ?_
  refine lv_iload_n hx hb dX0_sell_6 rfl (lv_at hl 2 rfl) ?_
  refine kn_X0_requireTower hC (c_X0_requireTower l D cI cQ a S hI (t := t) (by omega)) hB rfl ⟨rfl, rfl⟩ ⟨Nat.le_of_ble_eq_true rfl, Nat.le_of_ble_eq_true rfl⟩ ⟨Nat.zero_le _, Nat.zero_le _⟩ hl.1 rfl (Nat.le_of_ble_eq_true rfl) dX0_sell_7 ?_
  refine lv_iload_n hx hb dX0_sell_10 rfl (lv_at hl 3 rfl) ?_
  refine kn_X0_requireTradable hC (c_X0_requireTradable l (k := k) (by omega) (by omega)) mov_T trivial rfl ⟨rfl, rfl⟩ ⟨Nat.le_of_ble_eq_true rfl, Nat.le_of_ble_eq_true rfl⟩ ⟨Nat.zero_le _, Nat.zero_le _⟩ hl.1 rfl (Nat.le_of_ble_eq_true rfl) dX0_sell_11 ?_
  refine lv_aload_n hx hb dX0_sell_14 rfl (lv_at hl 0 rfl) ?_
  refine gB_held hC hB dX0_sell_15 ?_
  refine lv_iload_n hx hb dX0_sell_18 rfl (lv_at hl 1 rfl) ?_
  refine lB_row (r) hC hB rfl (by omega) dX0_sell_19 ?_
  refine lv_iload_n hx hb dX0_sell_20 rfl (lv_at hl 2 rfl) ?_
  refine lB_held (r) (t) hC hB (by omega) rfl (by omega) rfl dX0_sell_21 ?_
  refine lv_iload_n hx hb dX0_sell_22 rfl (lv_at hl 3 rfl) ?_
  refine lv_isub hx hb dX0_sell_23 ?_
  refine lv_bipush (v := -9) hx hb dX0_sell_24 (by decide) ?_
  refine lv_icmp_ge (tgt := 39) hx hb dX0_sell_26 (by decide) (fun c1 => ?_) (fun c1 => ?_)
  · refine lv_aload_n hx hb dX0_sell_39 rfl (lv_at hl 0 rfl) ?_
    refine lv_iload_n hx hb dX0_sell_40 rfl (lv_at hl 2 rfl) ?_
    refine k_X0_priceNow hC (c_X0_priceNow l D cI cQ a S hI (t := t) (by omega)) hB rfl ⟨rfl, rfl⟩ ⟨Nat.le_of_ble_eq_true rfl, Nat.le_of_ble_eq_true rfl⟩ ⟨Nat.zero_le _, Nat.zero_le _⟩ hl.1 rfl (Nat.le_of_ble_eq_true rfl) dX0_sell_41 ?_
    refine lv_iload_n hx hb dX0_sell_44 rfl (lv_at hl 3 rfl) ?_
    refine lv_imul hx hb dX0_sell_45 ?_
    refine lv_istore (lv' := [(4, .int ((bPr S R t) * (nI k))), (0, .ref (a 13)), (1, .int (nI r)), (2, .int (nI t)), (3, .int (nI k))]) hx hb dX0_sell_46 hl (by decide) rfl (fun ls hl => ?_)
    refine lv_aload_n hx hb dX0_sell_48 rfl (lv_at hl 1 rfl) ?_
    refine gB_purse hC hB dX0_sell_49 ?_
    refine lv_iload_n hx hb dX0_sell_52 rfl (lv_at hl 2 rfl) ?_
    refine lv_dup2_11 hx hb dX0_sell_53 rfl rfl ?_
    refine lB_purse (r) hC hB rfl (by omega) rfl dX0_sell_54 ?_
    refine lv_iload hx hb dX0_sell_55 (lv_at hl 0 rfl) ?_
    refine lv_iadd hx hb dX0_sell_57 ?_
    refine sB_purse (r) hC hB rfl (by omega) hS hA dX0_sell_58 (fun H locs hB hS => ?_)
    refine lv_aload_n hx hb dX0_sell_59 rfl (lv_at hl 1 rfl) ?_
    refine gB_held hC hB dX0_sell_60 ?_
    refine lv_iload_n hx hb dX0_sell_63 rfl (lv_at hl 2 rfl) ?_
    refine lB_row (r) hC hB rfl (by omega) dX0_sell_64 ?_
    refine lv_iload_n hx hb dX0_sell_65 rfl (lv_at hl 3 rfl) ?_
    refine lv_dup2_11 hx hb dX0_sell_66 rfl rfl ?_
    refine lB_held (v := S (7 + r) t) (r) (t) hC hB (by omega) rfl (by omega) (by rw [up2_ne _ _ (by omega)]) dX0_sell_67 ?_
    refine lv_iload_n hx hb dX0_sell_68 rfl (lv_at hl 4 rfl) ?_
    refine lv_isub hx hb dX0_sell_69 ?_
    refine sB_held (r) (t) hC hB (by omega) rfl (by omega) hS hA dX0_sell_70 (fun H locs hB hS => ?_)
    refine lv_iload hx hb dX0_sell_71 (lv_at hl 0 rfl) ?_
    exact wr_i hC hr hlocks mov_B (hB) hS dX0_sell_73 (by rfl)
  · exfalso; exact c1 h1
set_option maxHeartbeats 4000000 in
set_option maxRecDepth 100000 in
theorem c_X0_list (l : Launch) (D : va_G) (cI cQ : ClassId) (a : Nat → Nat) (S : bS) {T R : Nat} {w0 p0 b0 : Nat} (hI : BI S T R) (hT7 : T < 8) (hw1 : 1 ≤ w0) (hw9 : w0 ≤ 9) (hp2 : 2 ≤ p0) (hp20 : p0 ≤ 20) (hb0 : b0 < p0) : Wr l yX0_list cX0_list 6 (some .int) ({ frames := 1, cells := 0, slots := 0, locals := 22 } : Room) (BW D cI cQ a S) (BW D cI cQ a (up2 (up2 (up2 (up2 S 0 T (nI w0)) 1 T (nI p0)) 3 T (if flm (nI b0 - S 6 0) (nI p0) = 0 then nI p0 else flm (nI b0 - S 6 0) (nI p0))) 6 1 (nI (T + 1)))) (inB a) [.ref (a 13), .int (nI w0), .int (nI p0), .int (nI b0)] (some (.int (nI T))) 0 0 := by
  refine Wr.of (by decide) (Nat.le_of_ble_eq_true rfl) ?_
  intro p e s m args below meth c ls hC hr hlocks hB hS hl
  have hx := hC.1
  have hb := hC.2.1
  have hA : ∀ q, (inB a) q → (inB a) q := fun _ h => h
  obtain ⟨hT, hR, hT8, hR6⟩ := id hI
  have hl : lv_has ls 6 [(0, .ref (a 13)), (1, .int (nI w0)), (2, .int (nI p0)), (3, .int (nI b0))] := hl
  have hp0 : ¬ nI p0 = 0 := nI_ne0 (by omega) (by omega)
  refine lv_iload_n hx hb dX0_list_0 rfl (lv_at hl 1 rfl) ?_
  refine lv_iconst (v := 1) hx hb dX0_list_1 (by decide) ?_
  refine jlt (i := w0) (j := 1) (tgt := 11) hC dX0_list_2 (by decide) rfl rfl (by omega) (by omega) (fun c1 => ?_) (fun c1 => ?_)
  · exfalso; omega
  · refine lv_iload_n hx hb dX0_list_5 rfl (lv_at hl 1 rfl) ?_
    refine lv_bipush (v := 9) hx hb dX0_list_6 (by decide) ?_
    refine jle (i := w0) (j := 9) (tgt := 21) hC dX0_list_8 (by decide) rfl rfl (by omega) (by omega) (fun c2 => ?_) (fun c2 => ?_)
    · refine lv_iload_n hx hb dX0_list_21 rfl (lv_at hl 2 rfl) ?_
      refine lv_iconst (v := 2) hx hb dX0_list_22 (by decide) ?_
      refine jlt (i := p0) (j := 2) (tgt := 32) hC dX0_list_23 (by decide) rfl rfl (by omega) (by omega) (fun c3 => ?_) (fun c3 => ?_)
      · exfalso; omega
      · refine lv_iload_n hx hb dX0_list_26 rfl (lv_at hl 2 rfl) ?_
        refine lv_bipush (v := 20) hx hb dX0_list_27 (by decide) ?_
        refine jle (i := p0) (j := 20) (tgt := 42) hC dX0_list_29 (by decide) rfl rfl (by omega) (by omega) (fun c4 => ?_) (fun c4 => ?_)
        · refine lv_iload_n hx hb dX0_list_42 rfl (lv_at hl 3 rfl) ?_
          refine lv_if_lt (tgt := 51) hx hb dX0_list_43 (by decide) (fun c5 => ?_) (fun c5 => ?_)
          · exfalso; exact absurd c5 (nI_pos (by omega))
          · refine lv_iload_n hx hb dX0_list_46 rfl (lv_at hl 3 rfl) ?_
            refine lv_iload_n hx hb dX0_list_47 rfl (lv_at hl 2 rfl) ?_
            refine jlt (i := b0) (j := p0) (tgt := 61) hC dX0_list_48 (by decide) rfl rfl (by omega) (by omega) (fun c6 => ?_) (fun c6 => ?_)
            · refine lv_aload_n hx hb dX0_list_61 rfl (lv_at hl 0 rfl) ?_
              refine gB_towerCount hC hB hT dX0_list_62 ?_
              refine lv_bipush (v := 8) hx hb dX0_list_65 (by decide) ?_
              refine jlt (i := T) (j := 8) (tgt := 80) hC dX0_list_67 (by decide) rfl rfl (by omega) (by omega) (fun c7 => ?_) (fun c7 => ?_)
              · refine lv_aload_n hx hb dX0_list_80 rfl (lv_at hl 0 rfl) ?_
                refine gB_towerCount hC hB hT dX0_list_81 ?_
                refine lv_istore (lv' := [(4, .int (nI T)), (0, .ref (a 13)), (1, .int (nI w0)), (2, .int (nI p0)), (3, .int (nI b0))]) hx hb dX0_list_84 hl (by decide) rfl (fun ls hl => ?_)
                refine lv_iload_n hx hb dX0_list_86 rfl (lv_at hl 4 rfl) ?_
                refine lv_aload_n hx hb dX0_list_87 rfl (lv_at hl 1 rfl) ?_
                refine gB_second hC hB rfl dX0_list_88 ?_
                refine lv_isub hx hb dX0_list_91 ?_
                refine lv_iload_n hx hb dX0_list_92 rfl (lv_at hl 3 rfl) ?_
                refine k_J9_floorMod_7cf53 hC (c_J9_floorMod_7cf53 l ((nI b0) - (S 6 0)) (nI p0) (by exact hp0)) mov_T trivial rfl ⟨rfl, rfl⟩ ⟨Nat.le_of_ble_eq_true rfl, Nat.le_of_ble_eq_true rfl⟩ ⟨Nat.zero_le _, Nat.zero_le _⟩ hl.1 rfl (Nat.le_of_ble_eq_true rfl) dX0_list_93 ?_
                refine lv_istore (lv' := [(5, .int (flm ((nI b0) - (S 6 0)) (nI p0))), (4, .int (nI T)), (0, .ref (a 13)), (1, .int (nI w0)), (2, .int (nI p0)), (3, .int (nI b0))]) hx hb dX0_list_96 hl (by decide) rfl (fun ls hl => ?_)
                refine lv_aload_n hx hb dX0_list_98 rfl (lv_at hl 2 rfl) ?_
                refine gB_loudness hC hB dX0_list_99 ?_
                refine lv_iload hx hb dX0_list_102 (lv_at hl 1 rfl) ?_
                refine lv_iload_n hx hb dX0_list_104 rfl (lv_at hl 3 rfl) ?_
                refine sB_loudness (T) hC hB rfl (by omega) hS hA dX0_list_105 (fun H locs hB hS => ?_)
                refine lv_aload_n hx hb dX0_list_106 rfl (lv_at hl 2 rfl) ?_
                refine gB_period hC hB dX0_list_107 ?_
                refine lv_iload hx hb dX0_list_110 (lv_at hl 1 rfl) ?_
                refine lv_iload_n hx hb dX0_list_112 rfl (lv_at hl 4 rfl) ?_
                refine sB_period (T) hC hB rfl (by omega) hS hA dX0_list_113 (fun H locs hB hS => ?_)
                refine lv_aload_n hx hb dX0_list_114 rfl (lv_at hl 2 rfl) ?_
                refine gB_untilStroke hC hB dX0_list_115 ?_
                refine lv_iload hx hb dX0_list_118 (lv_at hl 1 rfl) ?_
                refine lv_iload hx hb dX0_list_120 (lv_at hl 0 rfl) ?_
                refine lv_if_ne (tgt := 129) hx hb dX0_list_122 (by decide) (fun c10 => ?_) (fun c10 => ?_)
                · refine lv_iload hx hb dX0_list_129 (lv_at hl 0 rfl) ?_
                  refine sB_untilStroke (T) hC hB rfl (by omega) hS hA dX0_list_131 (fun H locs hB hS => ?_)
                  refine lv_aload_n hx hb dX0_list_132 rfl (lv_at hl 2 rfl) ?_
                  refine lv_iload hx hb dX0_list_133 (lv_at hl 1 rfl) ?_
                  refine lv_iconst (v := 1) hx hb dX0_list_135 (by decide) ?_
                  refine xadd (v := nI (T + 1)) hC dX0_list_136 (nadd (i := T) (j := 1) rfl rfl) ?_
                  refine pB_towerCount hC hB hS hA dX0_list_137 (fun H locs hB hS => ?_)
                  refine lv_iload hx hb dX0_list_140 (lv_at hl 1 rfl) ?_
                  exact wr_i hC hr hlocks mov_B (by rw [if_neg c10]; exact hB) hS dX0_list_142 (by rfl)
                · refine lv_iload_n hx hb dX0_list_125 rfl (lv_at hl 4 rfl) ?_
                  refine lv_goto (tgt := 131) hx hb dX0_list_126 (by decide) ?_
                  refine sB_untilStroke (T) hC hB rfl (by omega) hS hA dX0_list_131 (fun H locs hB hS => ?_)
                  refine lv_aload_n hx hb dX0_list_132 rfl (lv_at hl 2 rfl) ?_
                  refine lv_iload hx hb dX0_list_133 (lv_at hl 1 rfl) ?_
                  refine lv_iconst (v := 1) hx hb dX0_list_135 (by decide) ?_
                  refine xadd (v := nI (T + 1)) hC dX0_list_136 (nadd (i := T) (j := 1) rfl rfl) ?_
                  refine pB_towerCount hC hB hS hA dX0_list_137 (fun H locs hB hS => ?_)
                  refine lv_iload hx hb dX0_list_140 (lv_at hl 1 rfl) ?_
                  exact wr_i hC hr hlocks mov_B (by rw [if_pos c10]; exact hB) hS dX0_list_142 (by rfl)
              · exfalso; omega
            · exfalso; omega
        · exfalso; omega
    · exfalso; omega

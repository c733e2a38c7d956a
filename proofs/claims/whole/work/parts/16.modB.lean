section MK
variable {p : Program} {l : Launch} {e : Env} {R : Room} {s : State} {m : MethodId} {args : Array Value} {below : List Frame} {meth : Method} {c : Code} {H : Heap} {locs : List Loc} {cells slots : Nat} {Q : State → Prop}
variable {cc : ByteArray} {pc nL : Nat} {ls : Array Slot} {rest : List Value} {D : va_G} {cI : ClassId} {b : Nat → Nat} {N : bS} {A0 : Nat → Prop} {H0 : Heap}
theorem cpM_kp (hC : CallFix p m c cc nL s args wsL_law RX1) (hB : MW D cI b N s H) (hS : va_S A0 H0 H locs) (hA : ∀ q, inM b q → A0 q) (hls : ls.size = nL) (hR : 1 ≤ R.frames ∧ (rest.map fun v => v.category).sum + (nativeFrameWords "java/lang/System" "arraycopy" 5 + 11) ≤ R.locals) (hdg : decode cc pc = .ok (.invokestatic 39, 3)) (kk : ∀ (H1 : Heap) (locs1 : List Loc), MW D cI b (kp N) s H1 → va_S A0 H0 H1 locs1 → W p l e R s m args below meth c H1 locs1 cells slots Q (F0 m (pc + 3) ls rest)) : W p l e R s m args below meth c H locs cells slots Q (F0 m pc ls (.int 71 :: .int 0 :: .ref (b 4) :: .int 0 :: .ref (b 3) :: rest)) := by
  have e0 : (0 : Int32).toNatClampNeg = 0 := by decide
  have e1 : (71 : Int32).toNatClampNeg = 71 := by decide
  refine va_copyi hC.1 hC.2.1 (hC.2.2.1.trans hls.symm) hC.2.2.2.1 (hC.2.2.2.2 _ (List.mem_of_getElem? (i := 453) (by decide +kernel))) (hC.2.2.2.2 _ (List.mem_of_getElem? (i := 454) (by decide +kernel))) (hC.2.2.2.2 _ (List.mem_of_getElem? (i := 455) (by decide +kernel))) (hC.2.2.2.2 _ (List.mem_of_getElem? (i := 456) (by decide +kernel))) hB.1 hB.2.1 (hB.D.weaken (fun _ _ _ h => hA _ h)) hS 4 5 0 0 (f := N 3) (g := N 4) rfl rfl rfl rfl rfl (by decide) (by decide) (by decide) (by rw [e0, e1]; decide) (by rw [e0, e1]; decide) (fun _ _ => rfl) hR.1 hR.2 hdg (fun H1 locs1 h1 _ h3 => ?_)
  rw [e0, e1] at h1
  exact kk H1 locs1 ⟨hB.1, h1, hB.2.2⟩ h3
theorem cpM_bk (hC : CallFix p m c cc nL s args wsL_law RX1) (hB : MW D cI b N s H) (hS : va_S A0 H0 H locs) (hA : ∀ q, inM b q → A0 q) (hls : ls.size = nL) (hR : 1 ≤ R.frames ∧ (rest.map fun v => v.category).sum + (nativeFrameWords "java/lang/System" "arraycopy" 5 + 11) ≤ R.locals) (hdg : decode cc pc = .ok (.invokestatic 39, 3)) (kk : ∀ (H1 : Heap) (locs1 : List Loc), MW D cI b (bk N) s H1 → va_S A0 H0 H1 locs1 → W p l e R s m args below meth c H1 locs1 cells slots Q (F0 m (pc + 3) ls rest)) : W p l e R s m args below meth c H locs cells slots Q (F0 m pc ls (.int 71 :: .int 0 :: .ref (b 3) :: .int 0 :: .ref (b 4) :: rest)) := by
  have e0 : (0 : Int32).toNatClampNeg = 0 := by decide
  have e1 : (71 : Int32).toNatClampNeg = 71 := by decide
  refine va_copyi hC.1 hC.2.1 (hC.2.2.1.trans hls.symm) hC.2.2.2.1 (hC.2.2.2.2 _ (List.mem_of_getElem? (i := 453) (by decide +kernel))) (hC.2.2.2.2 _ (List.mem_of_getElem? (i := 454) (by decide +kernel))) (hC.2.2.2.2 _ (List.mem_of_getElem? (i := 455) (by decide +kernel))) (hC.2.2.2.2 _ (List.mem_of_getElem? (i := 456) (by decide +kernel))) hB.1 hB.2.1 (hB.D.weaken (fun _ _ _ h => hA _ h)) hS 5 4 0 0 (f := N 4) (g := N 3) rfl rfl rfl rfl rfl (by decide) (by decide) (by decide) (by rw [e0, e1]; decide) (by rw [e0, e1]; decide) (fun _ _ => rfl) hR.1 hR.2 hdg (fun H1 locs1 h1 _ h3 => ?_)
  rw [e0, e1] at h1
  exact kk H1 locs1 ⟨hB.1, h1, hB.2.2⟩ h3
end MK
set_option maxHeartbeats 4000000 in
set_option maxRecDepth 100000 in
theorem c_X1_keep (l : Launch) (D : va_G) (cI : ClassId) (b : Nat → Nat) (N : bS)   : Wr l yX1_keep cX1_keep 1 none ({ frames := 1, cells := 0, slots := 0, locals := 40 } : Room) (MW D cI b N) (MW D cI b (kp N)) (inM b) [.ref (b 5)] none 0 0 := by
  refine Wr.of (by decide) (Nat.le_of_ble_eq_true rfl) ?_
  intro p e s m args below meth c ls hC hr hlocks hB hS hl
  have hx := hC.1
  have hb := hC.2.1
  have hA : ∀ q, (inM b) q → (inM b) q := fun _ h => h
  have hl : lv_has ls 1 [(0, .ref (b 5))] := hl
  refine lv_aload_n hx hb dX1_keep_0 rfl (lv_at hl 0 rfl) ?_
  refine gM_now hC hB dX1_keep_1 ?_
  refine lv_iconst (v := 0) hx hb dX1_keep_4 (by decide) ?_
  refine lv_aload_n hx hb dX1_keep_5 rfl (lv_at hl 0 rfl) ?_
  refine gM_kept hC hB dX1_keep_6 ?_
  refine lv_iconst (v := 0) hx hb dX1_keep_9 (by decide) ?_
  refine lv_bipush (v := 71) hx hb dX1_keep_10 (by decide) ?_
  refine cpM_kp hC hB hS hA hl.1 ⟨Nat.le_of_ble_eq_true rfl, Nat.le_of_ble_eq_true rfl⟩ dX1_keep_12 (fun H locs hB hS => ?_)
  exact wr_v hC hr hlocks mov_M (hB) hS dX1_keep_15
set_option maxHeartbeats 4000000 in
set_option maxRecDepth 100000 in
theorem c_X1_bringBack (l : Launch) (D : va_G) (cI : ClassId) (b : Nat → Nat) (N : bS)   : Wr l yX1_bringBack cX1_bringBack 1 none ({ frames := 1, cells := 0, slots := 0, locals := 40 } : Room) (MW D cI b N) (MW D cI b (bk N)) (inM b) [.ref (b 5)] none 0 0 := by
  refine Wr.of (by decide) (Nat.le_of_ble_eq_true rfl) ?_
  intro p e s m args below meth c ls hC hr hlocks hB hS hl
  have hx := hC.1
  have hb := hC.2.1
  have hA : ∀ q, (inM b) q → (inM b) q := fun _ h => h
  have hl : lv_has ls 1 [(0, .ref (b 5))] := hl
  refine lv_aload_n hx hb dX1_bringBack_0 rfl (lv_at hl 0 rfl) ?_
  refine gM_kept hC hB dX1_bringBack_1 ?_
  refine lv_iconst (v := 0) hx hb dX1_bringBack_4 (by decide) ?_
  refine lv_aload_n hx hb dX1_bringBack_5 rfl (lv_at hl 0 rfl) ?_
  refine gM_now hC hB dX1_bringBack_6 ?_
  refine lv_iconst (v := 0) hx hb dX1_bringBack_9 (by decide) ?_
  refine lv_bipush (v := 71) hx hb dX1_bringBack_10 (by decide) ?_
  refine cpM_bk hC hB hS hA hl.1 ⟨Nat.le_of_ble_eq_true rfl, Nat.le_of_ble_eq_true rfl⟩ dX1_bringBack_12 (fun H locs hB hS => ?_)
  exact wr_v hC hr hlocks mov_M (hB) hS dX1_bringBack_15
set_option maxHeartbeats 4000000 in
set_option maxRecDepth 100000 in
theorem c_X1_fail (l : Launch) (D : va_G) (cI : ClassId) (b : Nat → Nat) (N : bS) (x : Int32)  : Wr l yX1_fail cX1_fail 2 (some .int) ({ frames := 0, cells := 0, slots := 0, locals := 0 } : Room) (MW D cI b N) (MW D cI b (up2 N 5 0 x)) (inM b) [.ref (b 5), .int (x)] (some (.int (0))) 0 0 := by
  refine Wr.of (by decide) (Nat.le_of_ble_eq_true rfl) ?_
  intro p e s m args below meth c ls hC hr hlocks hB hS hl
  have hx := hC.1
  have hb := hC.2.1
  have hA : ∀ q, (inM b) q → (inM b) q := fun _ h => h
  have hl : lv_has ls 2 [(0, .ref (b 5)), (1, .int (x))] := hl
  refine lv_aload_n hx hb dX1_fail_0 rfl (lv_at hl 0 rfl) ?_
  refine lv_iload_n hx hb dX1_fail_1 rfl (lv_at hl 1 rfl) ?_
  refine pM_thrown hC hB hS hA dX1_fail_2 (fun H locs hB hS => ?_)
  refine lv_iconst (v := 0) hx hb dX1_fail_5 (by decide) ?_
  exact wr_i hC hr hlocks mov_M (hB) hS dX1_fail_6 (by rfl)
set_option maxHeartbeats 4000000 in
set_option maxRecDepth 100000 in
theorem c_X1_told (l : Launch) (D : va_G) (cI : ClassId) (b : Nat → Nat) (N : bS) (x : Int32)  : Wr l yX1_told cX1_told 2 (some .int) ({ frames := 0, cells := 0, slots := 0, locals := 0 } : Room) (MW D cI b N) (MW D cI b (up2 N 5 0 0)) (inM b) [.ref (b 5), .int (x)] (some (.int (x))) 0 0 := by
  refine Wr.of (by decide) (Nat.le_of_ble_eq_true rfl) ?_
  intro p e s m args below meth c ls hC hr hlocks hB hS hl
  have hx := hC.1
  have hb := hC.2.1
  have hA : ∀ q, (inM b) q → (inM b) q := fun _ h => h
  have hl : lv_has ls 2 [(0, .ref (b 5)), (1, .int (x))] := hl
  refine lv_aload_n hx hb dX1_told_0 rfl (lv_at hl 0 rfl) ?_
  refine lv_iconst (v := 0) hx hb dX1_told_1 (by decide) ?_
  refine pM_thrown hC hB hS hA dX1_told_2 (fun H locs hB hS => ?_)
  refine lv_iload_n hx hb dX1_told_5 rfl (lv_at hl 1 rfl) ?_
  exact wr_i hC hr hlocks mov_M (hB) hS dX1_told_6 (by rfl)
set_option maxHeartbeats 4000000 in
set_option maxRecDepth 100000 in
theorem c_X1_secondOn (l : Launch) (D : va_G) (cI : ClassId) (b : Nat → Nat) (N : bS) {T R : Nat} (hI : MI N T R) (hP : mP N T) : Wr l yX1_secondOn cX1_secondOn 5 (some .int) ({ frames := 4, cells := 0, slots := 0, locals := 90 } : Room) (MW D cI b N) (MW D cI b (mGo N R T)) (inM b) [.ref (b 5)] (some (.int (mGc N R T))) 0 0 := by
  refine Wr.of (by decide) (Nat.le_of_ble_eq_true rfl) ?_
  intro p e s m args below meth c ls hC hr hlocks hB hS hl
  have hx := hC.1
  have hb := hC.2.1
  have hA : ∀ q, (inM b) q → (inM b) q := fun _ h => h
  obtain ⟨hT, hR, hT8, hR6⟩ := id hI
  have hl : lv_has ls 5 [(0, .ref (b 5))] := hl
  refine lv_iconst (v := 0) hx hb dX1_secondOn_0 (by decide) ?_
  refine lv_istore_n (lv' := [(1, .int (0)), (0, .ref (b 5))]) hx hb dX1_secondOn_1 rfl hl (by decide) rfl (fun ls hl => ?_)
  refine lv_aload_n hx hb dX1_secondOn_2 rfl (lv_at hl 1 rfl) ?_
  refine gM_now hC hB dX1_secondOn_3 ?_
  refine lv_iconst (v := 0) hx hb dX1_secondOn_6 (by decide) ?_
  refine lv_dup2_11 hx hb dX1_secondOn_7 rfl rfl ?_
  refine lM_now (0) hC hB rfl (by omega) rfl dX1_secondOn_8 ?_
  refine lv_iconst (v := 1) hx hb dX1_secondOn_9 (by decide) ?_
  refine lv_iadd hx hb dX1_secondOn_10 ?_
  refine sM_now (0) hC hB rfl (by omega) hS hA dX1_secondOn_11 (fun H locs hB hS => ?_)
  refine lv_iconst (v := 0) hx hb dX1_secondOn_12 (by decide) ?_
  refine lv_istore_n (lv' := [(2, .int (0)), (1, .int (0)), (0, .ref (b 5))]) hx hb dX1_secondOn_13 rfl hl (by decide) rfl (fun ls hl => ?_)
  refine loopU (P := fun i => ∀ (H : Heap) (locs : List Loc), MW D cI b ((mGo N R i)) s H → va_S (inM b) s.heap H locs → ∀ ls : Array Slot, lv_has ls 5 [(2, .int (nI i)), (1, .int (mGc N R i)), (0, .ref (b 5))] → W p l e ({ frames := 4, cells := 0, slots := 0, locals := 90 } : Room) s m args below meth c H locs 0 0 (MQ below (qW (some (.int (mGc N R T))) (MW D cI b (mGo N R T)) (inM b)) args s 0 0 (inM b)) (F0 m 14 ls [])) (T) ?_ ?_ 0 (by omega) H locs hB hS ls (by first | exact lv_sub hl [0, 1, 2] rfl | (simpa using lv_sub hl [0, 1, 2] rfl))
  · intro H locs hB hS ls hl
    refine lv_iload_n hx hb dX1_secondOn_14 rfl (lv_at hl 0 rfl) ?_
    refine lv_aload_n hx hb dX1_secondOn_15 rfl (lv_at hl 2 rfl) ?_
    refine gM_towers hC hB ((MI_go hI).1) dX1_secondOn_16 ?_
    refine jge (i := T) (j := T) (tgt := 152) hC dX1_secondOn_19 (by decide) rfl rfl (by omega) (by omega) (fun c2 => ?_) (fun c2 => ?_)
    · refine lv_iload_n hx hb dX1_secondOn_152 rfl (lv_at hl 1 rfl) ?_
      exact wr_i hC hr hlocks mov_M (hB) hS dX1_secondOn_153 (by rfl)
    · exfalso; omega
  · intro i hi ih H locs hB hS ls hl
    refine lv_iload_n hx hb dX1_secondOn_14 rfl (lv_at hl 0 rfl) ?_
    refine lv_aload_n hx hb dX1_secondOn_15 rfl (lv_at hl 2 rfl) ?_
    refine gM_towers hC hB ((MI_go hI).1) dX1_secondOn_16 ?_
    refine jge (i := i) (j := T) (tgt := 152) hC dX1_secondOn_19 (by decide) rfl rfl (by omega) (by omega) (fun c3 => ?_) (fun c3 => ?_)
    · exfalso; omega
    · refine lv_aload_n hx hb dX1_secondOn_22 rfl (lv_at hl 2 rfl) ?_
      refine gM_now hC hB dX1_secondOn_23 ?_
      refine lv_iconst (v := 0) hx hb dX1_secondOn_26 (by decide) ?_
      refine lM_now (0) hC hB rfl (by omega) rfl dX1_secondOn_27 ?_
      refine lv_aload_n hx hb dX1_secondOn_28 rfl (lv_at hl 2 rfl) ?_
      refine gM_period hC hB dX1_secondOn_29 ?_
      refine lv_iload_n hx hb dX1_secondOn_32 rfl (lv_at hl 0 rfl) ?_
      refine lM_period (i) hC hB rfl (by omega) rfl dX1_secondOn_33 ?_
      refine lv_irem hx hb dX1_secondOn_34 (mP_go hP i (by omega)) ?_
      refine lv_aload_n hx hb dX1_secondOn_35 rfl (lv_at hl 2 rfl) ?_
      refine gM_beat hC hB dX1_secondOn_36 ?_
      refine lv_iload_n hx hb dX1_secondOn_39 rfl (lv_at hl 0 rfl) ?_
      refine lM_beat (i) hC hB rfl (by omega) rfl dX1_secondOn_40 ?_
      refine lv_icmp_eq (tgt := 59) hx hb dX1_secondOn_41 (by decide) (fun c4 => ?_) (fun c4 => ?_)
      · refine lv_aload_n hx hb dX1_secondOn_59 rfl (lv_at hl 2 rfl) ?_
        refine lv_iload_n hx hb dX1_secondOn_60 rfl (lv_at hl 0 rfl) ?_
        refine k_X1_price hC (c_X1_price l D cI b (mGo N R i) (t := i) (MI_go hI) (by omega)) hB rfl ⟨rfl, rfl⟩ ⟨Nat.le_of_ble_eq_true rfl, Nat.le_of_ble_eq_true rfl⟩ ⟨Nat.zero_le _, Nat.zero_le _⟩ hl.1 rfl (Nat.le_of_ble_eq_true rfl) dX1_secondOn_61 ?_
        refine lv_istore_n (lv' := [(3, .int (mPr (mGo N R i) R i)), (2, .int (nI i)), (1, .int (mGc N R i)), (0, .ref (b 5))]) hx hb dX1_secondOn_64 rfl hl (by decide) rfl (fun ls hl => ?_)
        refine lv_iconst (v := 0) hx hb dX1_secondOn_65 (by decide) ?_
        refine lv_istore (lv' := [(4, .int (0)), (3, .int (mPr (mGo N R i) R i)), (2, .int (nI i)), (1, .int (mGc N R i)), (0, .ref (b 5))]) hx hb dX1_secondOn_66 hl (by decide) rfl (fun ls hl => ?_)
        refine loopU (P := fun j => ∀ (H : Heap) (locs : List Loc), MW D cI b ((mS1 (mGo N R i) (mPr (mGo N R i) R i) i j)) s H → va_S (inM b) s.heap H locs → ∀ ls : Array Slot, lv_has ls 5 [(4, .int (nI j)), (3, .int (mPr (mGo N R i) R i)), (2, .int (nI i)), (1, .int (mGc N R i)), (0, .ref (b 5))] → W p l e ({ frames := 4, cells := 0, slots := 0, locals := 90 } : Room) s m args below meth c H locs 0 0 (MQ below (qW (some (.int (mGc N R T))) (MW D cI b (mGo N R T)) (inM b)) args s 0 0 (inM b)) (F0 m 68 ls [])) (R) ?_ ?_ 0 (by omega) H locs hB hS ls (by first | exact lv_sub hl [0, 1, 2, 3, 4] rfl | (simpa using lv_sub hl [0, 1, 2, 3, 4] rfl))
        · intro H locs hB hS ls hl
          refine lv_iload hx hb dX1_secondOn_68 (lv_at hl 0 rfl) ?_
          refine lv_aload_n hx hb dX1_secondOn_70 rfl (lv_at hl 4 rfl) ?_
          refine gM_traders hC hB ((MI_s1 (MI_go hI)).2.1) dX1_secondOn_71 ?_
          refine jge (i := R) (j := R) (tgt := 121) hC dX1_secondOn_74 (by decide) rfl rfl (by omega) (by omega) (fun c5 => ?_) (fun c5 => ?_)
          · refine lv_aload_n hx hb dX1_secondOn_121 rfl (lv_at hl 4 rfl) ?_
            refine gM_now hC hB dX1_secondOn_122 ?_
            refine lv_iconst (v := 1) hx hb dX1_secondOn_125 (by decide) ?_
            refine lv_iload_n hx hb dX1_secondOn_126 rfl (lv_at hl 2 rfl) ?_
            refine xadd (v := nI (1 + i)) hC dX1_secondOn_127 (nadd (i := 1) (j := i) rfl rfl) ?_
            refine lv_iconst (v := 0) hx hb dX1_secondOn_128 (by decide) ?_
            refine sM_now (1 + i) hC hB rfl (by omega) hS hA dX1_secondOn_129 (fun H locs hB hS => ?_)
            refine lv_aload_n hx hb dX1_secondOn_130 rfl (lv_at hl 4 rfl) ?_
            refine gM_now hC hB dX1_secondOn_131 ?_
            refine lv_bipush (v := 9) hx hb dX1_secondOn_134 (by decide) ?_
            refine lv_iload_n hx hb dX1_secondOn_136 rfl (lv_at hl 2 rfl) ?_
            refine xadd (v := nI (9 + i)) hC dX1_secondOn_137 (nadd (i := 9) (j := i) rfl rfl) ?_
            refine lv_dup2_11 hx hb dX1_secondOn_138 rfl rfl ?_
            refine lM_now (v := (mS1 (mGo N R i) (mPr (mGo N R i) R i) i R) 3 (9 + i)) (9 + i) hC hB rfl (by omega) (by rw [up2_ne _ _ (by omega)]) dX1_secondOn_139 ?_
            refine lv_iconst (v := 1) hx hb dX1_secondOn_140 (by decide) ?_
            refine lv_iadd hx hb dX1_secondOn_141 ?_
            refine sM_now (9 + i) hC hB rfl (by omega) hS hA dX1_secondOn_142 (fun H locs hB hS => ?_)
            refine lv_iinc (v := (mGc N R i) + 1) (lv' := [(1, .int ((mGc N R i) + 1)), (4, .int (nI R)), (3, .int (mPr (mGo N R i) R i)), (2, .int (nI i)), (0, .ref (b 5))]) hx hb dX1_secondOn_143 hl (k := 3) rfl (rfl) (by decide) rfl (fun ls hl => ?_)
            refine lv_iinc (v := nI (i + 1)) (lv' := [(2, .int (nI (i + 1))), (1, .int ((mGc N R i) + 1)), (4, .int (nI R)), (3, .int (mPr (mGo N R i) R i)), (0, .ref (b 5))]) hx hb dX1_secondOn_146 hl (k := 3) rfl (ninc i) (by decide) rfl (fun ls hl => ?_)
            refine lv_goto (tgt := 14) hx hb dX1_secondOn_149 (by decide) ?_
            have e8 : mGc N R (i + 1) = (mGc N R i) + 1 := by rw [mGc_str c4] <;> rfl
            exact ih H locs (by rw [mGo_str c4]; exact hB) hS ls (by rw [e8]; exact lv_sub hl [0, 1, 4] rfl)
          · exfalso; omega
        · intro j hj jh H locs hB hS ls hl
          refine lv_iload hx hb dX1_secondOn_68 (lv_at hl 0 rfl) ?_
          refine lv_aload_n hx hb dX1_secondOn_70 rfl (lv_at hl 4 rfl) ?_
          refine gM_traders hC hB ((MI_s1 (MI_go hI)).2.1) dX1_secondOn_71 ?_
          refine jge (i := j) (j := R) (tgt := 121) hC dX1_secondOn_74 (by decide) rfl rfl (by omega) (by omega) (fun c9 => ?_) (fun c9 => ?_)
          · exfalso; omega
          · refine lv_aload_n hx hb dX1_secondOn_77 rfl (lv_at hl 4 rfl) ?_
            refine gM_now hC hB dX1_secondOn_78 ?_
            refine lv_bipush (v := 17) hx hb dX1_secondOn_81 (by decide) ?_
            refine lv_iload hx hb dX1_secondOn_83 (lv_at hl 0 rfl) ?_
            refine xadd (v := nI (17 + j)) hC dX1_secondOn_85 (nadd (i := 17) (j := j) rfl rfl) ?_
            refine lv_dup2_11 hx hb dX1_secondOn_86 rfl rfl ?_
            refine lM_now (17 + j) hC hB rfl (by omega) rfl dX1_secondOn_87 ?_
            refine lv_iload_n hx hb dX1_secondOn_88 rfl (lv_at hl 1 rfl) ?_
            refine lv_aload_n hx hb dX1_secondOn_89 rfl (lv_at hl 4 rfl) ?_
            refine gM_now hC hB dX1_secondOn_90 ?_
            refine lv_iload hx hb dX1_secondOn_93 (lv_at hl 0 rfl) ?_
            refine lv_iload_n hx hb dX1_secondOn_95 rfl (lv_at hl 2 rfl) ?_
            refine k_X1_at hC (c_X1_at l (r := j) (t := i)) mov_T trivial rfl ⟨rfl, rfl⟩ ⟨Nat.le_of_ble_eq_true rfl, Nat.le_of_ble_eq_true rfl⟩ ⟨Nat.zero_le _, Nat.zero_le _⟩ hl.1 rfl (Nat.le_of_ble_eq_true rfl) dX1_secondOn_96 ?_
            refine lM_now (23 + 8 * j + i) hC hB rfl (by omega) rfl dX1_secondOn_99 ?_
            refine lv_imul hx hb dX1_secondOn_100 ?_
            refine lv_iadd hx hb dX1_secondOn_101 ?_
            refine sM_now (17 + j) hC hB rfl (by omega) hS hA dX1_secondOn_102 (fun H locs hB hS => ?_)
            refine lv_aload_n hx hb dX1_secondOn_103 rfl (lv_at hl 4 rfl) ?_
            refine gM_now hC hB dX1_secondOn_104 ?_
            refine lv_iload hx hb dX1_secondOn_107 (lv_at hl 0 rfl) ?_
            refine lv_iload_n hx hb dX1_secondOn_109 rfl (lv_at hl 2 rfl) ?_
            refine k_X1_at hC (c_X1_at l (r := j) (t := i)) mov_T trivial rfl ⟨rfl, rfl⟩ ⟨Nat.le_of_ble_eq_true rfl, Nat.le_of_ble_eq_true rfl⟩ ⟨Nat.zero_le _, Nat.zero_le _⟩ hl.1 rfl (Nat.le_of_ble_eq_true rfl) dX1_secondOn_110 ?_
            refine lv_iconst (v := 0) hx hb dX1_secondOn_113 (by decide) ?_
            refine sM_now (23 + 8 * j + i) hC hB rfl (by omega) hS hA dX1_secondOn_114 (fun H locs hB hS => ?_)
            refine lv_iinc (v := nI (j + 1)) (lv' := [(4, .int (nI (j + 1))), (3, .int (mPr (mGo N R i) R i)), (2, .int (nI i)), (1, .int (mGc N R i)), (0, .ref (b 5))]) hx hb dX1_secondOn_115 hl (k := 0) rfl (ninc j) (by decide) rfl (fun ls hl => ?_)
            refine lv_goto (tgt := 68) hx hb dX1_secondOn_118 (by decide) ?_
            exact jh H locs (hB) hS ls (lv_sub hl [0, 1, 2, 3, 4] rfl)
      · refine lv_aload_n hx hb dX1_secondOn_44 rfl (lv_at hl 2 rfl) ?_
        refine gM_now hC hB dX1_secondOn_45 ?_
        refine lv_iconst (v := 1) hx hb dX1_secondOn_48 (by decide) ?_
        refine lv_iload_n hx hb dX1_secondOn_49 rfl (lv_at hl 0 rfl) ?_
        refine xadd (v := nI (1 + i)) hC dX1_secondOn_50 (nadd (i := 1) (j := i) rfl rfl) ?_
        refine lv_dup2_11 hx hb dX1_secondOn_51 rfl rfl ?_
        refine lM_now (1 + i) hC hB rfl (by omega) rfl dX1_secondOn_52 ?_
        refine lv_iconst (v := 1) hx hb dX1_secondOn_53 (by decide) ?_
        refine lv_iadd hx hb dX1_secondOn_54 ?_
        refine sM_now (1 + i) hC hB rfl (by omega) hS hA dX1_secondOn_55 (fun H locs hB hS => ?_)
        refine lv_goto (tgt := 146) hx hb dX1_secondOn_56 (by decide) ?_
        refine lv_iinc (v := nI (i + 1)) (lv' := [(2, .int (nI (i + 1))), (1, .int (mGc N R i)), (0, .ref (b 5))]) hx hb dX1_secondOn_146 hl (k := 0) rfl (ninc i) (by decide) rfl (fun ls hl => ?_)
        refine lv_goto (tgt := 14) hx hb dX1_secondOn_149 (by decide) ?_
        have e13 : mGc N R (i + 1) = mGc N R i := by rw [mGc_keep c4] <;> rfl
        exact ih H locs (by rw [mGo_keep c4]; exact hB) hS ls (by rw [e13]; exact lv_sub hl [0, 1, 2] rfl)
set_option maxHeartbeats 4000000 in
set_option maxRecDepth 100000 in
theorem c_X1_secondsOn (l : Launch) (D : va_G) (cI : ClassId) (b : Nat → Nat) (N : bS) {T R : Nat} {k : Nat} (hI : MI N T R) (hP : mP N T) (hk : k ≤ 100) : Wr l yX1_secondsOn cX1_secondsOn 4 (some .int) ({ frames := 5, cells := 0, slots := 0, locals := 114 } : Room) (MW D cI b N) (MW D cI b (mPa N T R k)) (inM b) [.ref (b 5), .int (nI k)] (some (.int (mPc N T R k))) 0 0 := by
  refine Wr.of (by decide) (Nat.le_of_ble_eq_true rfl) ?_
  intro p e s m args below meth c ls hC hr hlocks hB hS hl
  have hx := hC.1
  have hb := hC.2.1
  have hA : ∀ q, (inM b) q → (inM b) q := fun _ h => h
  obtain ⟨hT, hR, hT8, hR6⟩ := id hI
  have hl : lv_has ls 4 [(0, .ref (b 5)), (1, .int (nI k))] := hl
  refine lv_iconst (v := 0) hx hb dX1_secondsOn_0 (by decide) ?_
  refine lv_istore_n (lv' := [(2, .int (0)), (0, .ref (b 5)), (1, .int (nI k))]) hx hb dX1_secondsOn_1 rfl hl (by decide) rfl (fun ls hl => ?_)
  refine lv_iconst (v := 0) hx hb dX1_secondsOn_2 (by decide) ?_
  refine lv_istore_n (lv' := [(3, .int (0)), (2, .int (0)), (0, .ref (b 5)), (1, .int (nI k))]) hx hb dX1_secondsOn_3 rfl hl (by decide) rfl (fun ls hl => ?_)
  refine loopU (P := fun i => ∀ (H : Heap) (locs : List Loc), MW D cI b ((mPa N T R i)) s H → va_S (inM b) s.heap H locs → ∀ ls : Array Slot, lv_has ls 4 [(3, .int (nI i)), (2, .int (mPc N T R i)), (0, .ref (b 5)), (1, .int (nI k))] → W p l e ({ frames := 5, cells := 0, slots := 0, locals := 114 } : Room) s m args below meth c H locs 0 0 (MQ below (qW (some (.int (mPc N T R k))) (MW D cI b (mPa N T R k)) (inM b)) args s 0 0 (inM b)) (F0 m 4 ls [])) (k) ?_ ?_ 0 (by omega) s.heap [] hB hS ls (by first | exact lv_sub hl [0, 1, 2, 3] rfl | (simpa using lv_sub hl [0, 1, 2, 3] rfl))
  · intro H locs hB hS ls hl
    refine lv_iload_n hx hb dX1_secondsOn_4 rfl (lv_at hl 0 rfl) ?_
    refine lv_iload_n hx hb dX1_secondsOn_5 rfl (lv_at hl 3 rfl) ?_
    refine jge (i := k) (j := k) (tgt := 22) hC dX1_secondsOn_6 (by decide) rfl rfl (by omega) (by omega) (fun c1 => ?_) (fun c1 => ?_)
    · refine lv_iload_n hx hb dX1_secondsOn_22 rfl (lv_at hl 1 rfl) ?_
      exact wr_i hC hr hlocks mov_M (hB) hS dX1_secondsOn_23 (by rfl)
    · exfalso; omega
  · intro i hi ih H locs hB hS ls hl
    refine lv_iload_n hx hb dX1_secondsOn_4 rfl (lv_at hl 0 rfl) ?_
    refine lv_iload_n hx hb dX1_secondsOn_5 rfl (lv_at hl 3 rfl) ?_
    refine jge (i := i) (j := k) (tgt := 22) hC dX1_secondsOn_6 (by decide) rfl rfl (by omega) (by omega) (fun c2 => ?_) (fun c2 => ?_)
    · exfalso; omega
    · refine lv_iload_n hx hb dX1_secondsOn_9 rfl (lv_at hl 1 rfl) ?_
      refine lv_aload_n hx hb dX1_secondsOn_10 rfl (lv_at hl 2 rfl) ?_
      refine kw_X1_secondOn hC (c_X1_secondOn l D cI b (mPa N T R i) (MI_pa hI) (mP_pa hP)) hB rfl ⟨rfl, rfl⟩ ⟨Nat.le_of_ble_eq_true rfl, Nat.le_of_ble_eq_true rfl⟩ ⟨Nat.le_of_ble_eq_true rfl, Nat.le_of_ble_eq_true rfl⟩ hS hA hl.1 rfl (Nat.le_of_ble_eq_true rfl) dX1_secondsOn_11 (fun H locs hB hS => ?_)
      refine lv_iadd hx hb dX1_secondsOn_14 ?_
      refine lv_istore_n (lv' := [(2, .int ((mPc N T R i) + (mGc (mPa N T R i) R T))), (3, .int (nI i)), (0, .ref (b 5)), (1, .int (nI k))]) hx hb dX1_secondsOn_15 rfl hl (by decide) rfl (fun ls hl => ?_)
      refine lv_iinc (v := nI (i + 1)) (lv' := [(3, .int (nI (i + 1))), (2, .int ((mPc N T R i) + (mGc (mPa N T R i) R T))), (0, .ref (b 5)), (1, .int (nI k))]) hx hb dX1_secondsOn_16 hl (k := 1) rfl (ninc i) (by decide) rfl (fun ls hl => ?_)
      refine lv_goto (tgt := 4) hx hb dX1_secondsOn_19 (by decide) ?_
      exact ih H locs (hB) hS ls (lv_sub hl [0, 1, 2, 3] rfl)
set_option maxHeartbeats 4000000 in
set_option maxRecDepth 100000 in
theorem c_X1_sold (l : Launch) (D : va_G) (cI : ClassId) (b : Nat → Nat) (N : bS) {T R : Nat} {r t k : Nat} (hI : MI N T R) (hr9 : r < R) (ht : t < T) : Wr l yX1_sold cX1_sold 5 (some .int) ({ frames := 4, cells := 0, slots := 0, locals := 90 } : Room) (MW D cI b N) (MW D cI b (mSo N R r t k)) (inM b) [.ref (b 5), .int (nI r), .int (nI t), .int (nI k)] (some (.int (mPr N R t * nI k))) 0 0 := by
  refine Wr.of (by decide) (Nat.le_of_ble_eq_true rfl) ?_
  intro p e s m args below meth c ls hC hr hlocks hB hS hl
  have hx := hC.1
  have hb := hC.2.1
  have hA : ∀ q, (inM b) q → (inM b) q := fun _ h => h
  obtain ⟨hT, hR, hT8, hR6⟩ := id hI
  have hl : lv_has ls 5 [(0, .ref (b 5)), (1, .int (nI r)), (2, .int (nI t)), (3, .int (nI k))] := hl
  refine lv_aload_n hx hb dX1_sold_0 rfl (lv_at hl 0 rfl) ?_
  refine lv_iload_n hx hb dX1_sold_1 rfl (lv_at hl 2 rfl) ?_
  refine k_X1_price hC (c_X1_price l D cI b N (t := t) (hI) (by omega)) hB rfl ⟨rfl, rfl⟩ ⟨Nat.le_of_ble_eq_true rfl, Nat.le_of_ble_eq_true rfl⟩ ⟨Nat.zero_le _, Nat.zero_le _⟩ hl.1 rfl (Nat.le_of_ble_eq_true rfl) dX1_sold_2 ?_
  refine lv_iload_n hx hb dX1_sold_5 rfl (lv_at hl 3 rfl) ?_
  refine lv_imul hx hb dX1_sold_6 ?_
  refine lv_istore (lv' := [(4, .int ((mPr N R t) * (nI k))), (0, .ref (b 5)), (1, .int (nI r)), (2, .int (nI t)), (3, .int (nI k))]) hx hb dX1_sold_7 hl (by decide) rfl (fun ls hl => ?_)
  refine lv_aload_n hx hb dX1_sold_9 rfl (lv_at hl 1 rfl) ?_
  refine gM_now hC hB dX1_sold_10 ?_
  refine lv_iload_n hx hb dX1_sold_13 rfl (lv_at hl 2 rfl) ?_
  refine lv_iload_n hx hb dX1_sold_14 rfl (lv_at hl 3 rfl) ?_
  refine k_X1_at hC (c_X1_at l (r := r) (t := t)) mov_T trivial rfl ⟨rfl, rfl⟩ ⟨Nat.le_of_ble_eq_true rfl, Nat.le_of_ble_eq_true rfl⟩ ⟨Nat.zero_le _, Nat.zero_le _⟩ hl.1 rfl (Nat.le_of_ble_eq_true rfl) dX1_sold_15 ?_
  refine lv_dup2_11 hx hb dX1_sold_18 rfl rfl ?_
  refine lM_now (23 + 8 * r + t) hC hB rfl (by omega) rfl dX1_sold_19 ?_
  refine lv_iload_n hx hb dX1_sold_20 rfl (lv_at hl 4 rfl) ?_
  refine lv_isub hx hb dX1_sold_21 ?_
  refine sM_now (23 + 8 * r + t) hC hB rfl (by omega) hS hA dX1_sold_22 (fun H locs hB hS => ?_)
  refine lv_aload_n hx hb dX1_sold_23 rfl (lv_at hl 1 rfl) ?_
  refine gM_now hC hB dX1_sold_24 ?_
  refine lv_bipush (v := 17) hx hb dX1_sold_27 (by decide) ?_
  refine lv_iload_n hx hb dX1_sold_29 rfl (lv_at hl 2 rfl) ?_
  refine xadd (v := nI (17 + r)) hC dX1_sold_30 (nadd (i := 17) (j := r) rfl rfl) ?_
  refine lv_dup2_11 hx hb dX1_sold_31 rfl rfl ?_
  refine lM_now (v := N 3 (17 + r)) (17 + r) hC hB rfl (by omega) (by rw [up2_ne _ _ (by omega)]) dX1_sold_32 ?_
  refine lv_iload hx hb dX1_sold_33 (lv_at hl 0 rfl) ?_
  refine lv_iadd hx hb dX1_sold_35 ?_
  refine sM_now (17 + r) hC hB rfl (by omega) hS hA dX1_sold_36 (fun H locs hB hS => ?_)
  refine lv_iload hx hb dX1_sold_37 (lv_at hl 0 rfl) ?_
  exact wr_i hC hr hlocks mov_M (hB) hS dX1_sold_39 (by rfl)
set_option maxHeartbeats 4000000 in
set_option maxRecDepth 100000 in
theorem c_X1_can_ok (l : Launch) (D : va_G) (cI : ClassId) (b : Nat → Nat) (N : bS) {T R : Nat} {r t k : Nat} (hI : MI N T R) (hr9 : r < R) (ht : t < T) (hk1 : 1 ≤ k) (hk9 : k ≤ 9) : Wr l yX1_can cX1_can 4 (some .boolean) ({ frames := 2, cells := 0, slots := 0, locals := 43 } : Room) (MW D cI b N) (MW D cI b (up2 N 5 0 0)) (inM b) [.ref (b 5), .int (nI r), .int (nI t), .int (nI k)] (some (.int (1))) 0 0 := by
  refine Wr.of (by decide) (Nat.le_of_ble_eq_true rfl) ?_
  intro p e s m args below meth c ls hC hr hlocks hB hS hl
  have hx := hC.1
  have hb := hC.2.1
  have hA : ∀ q, (inM b) q → (inM b) q := fun _ h => h
  obtain ⟨hT, hR, hT8, hR6⟩ := id hI
  have hl : lv_has ls 4 [(0, .ref (b 5)), (1, .int (nI r)), (2, .int (nI t)), (3, .int (nI k))] := hl
  refine lv_aload_n hx hb dX1_can_0 rfl (lv_at hl 0 rfl) ?_
  refine lv_aload_n hx hb dX1_can_1 rfl (lv_at hl 0 rfl) ?_
  refine lv_iload_n hx hb dX1_can_2 rfl (lv_at hl 1 rfl) ?_
  refine k_X1_isTrader hC (c_X1_isTrader_ok l D cI b N (t := r) (hI) (by omega)) hB rfl ⟨rfl, rfl⟩ ⟨Nat.le_of_ble_eq_true rfl, Nat.le_of_ble_eq_true rfl⟩ ⟨Nat.zero_le _, Nat.zero_le _⟩ hl.1 rfl (Nat.le_of_ble_eq_true rfl) dX1_can_3 ?_
  refine lv_if_eq (tgt := 17) hx hb dX1_can_6 (by decide) (fun c1 => ?_) (fun c1 => ?_)
  · exfalso; revert c1; decide
  · refine lv_aload_n hx hb dX1_can_9 rfl (lv_at hl 0 rfl) ?_
    refine lv_iload_n hx hb dX1_can_10 rfl (lv_at hl 2 rfl) ?_
    refine k_X1_isTower hC (c_X1_isTower_ok l D cI b N (t := t) (hI) (by omega)) hB rfl ⟨rfl, rfl⟩ ⟨Nat.le_of_ble_eq_true rfl, Nat.le_of_ble_eq_true rfl⟩ ⟨Nat.zero_le _, Nat.zero_le _⟩ hl.1 rfl (Nat.le_of_ble_eq_true rfl) dX1_can_11 ?_
    refine lv_if_ne (tgt := 21) hx hb dX1_can_14 (by decide) (fun c2 => ?_) (fun c2 => ?_)
    · refine lv_iload_n hx hb dX1_can_21 rfl (lv_at hl 3 rfl) ?_
      refine lv_iconst (v := 1) hx hb dX1_can_22 (by decide) ?_
      refine lv_bipush (v := 9) hx hb dX1_can_23 (by decide) ?_
      refine k_X1_isIn hC (c_X1_isIn_ok l (v := k) (lo := 1) (hi := 9) (by omega) (by omega) (by omega)) mov_T trivial rfl ⟨rfl, rfl⟩ ⟨Nat.le_of_ble_eq_true rfl, Nat.le_of_ble_eq_true rfl⟩ ⟨Nat.zero_le _, Nat.zero_le _⟩ hl.1 rfl (Nat.le_of_ble_eq_true rfl) dX1_can_25 ?_
      refine lv_if_eq (tgt := 35) hx hb dX1_can_28 (by decide) (fun c3 => ?_) (fun c3 => ?_)
      · exfalso; revert c3; decide
      · refine lv_iconst (v := 0) hx hb dX1_can_31 (by decide) ?_
        refine lv_goto (tgt := 36) hx hb dX1_can_32 (by decide) ?_
        refine pM_thrown hC hB hS hA dX1_can_36 (fun H locs hB hS => ?_)
        refine lv_aload_n hx hb dX1_can_39 rfl (lv_at hl 0 rfl) ?_
        refine gM_thrown (v := 0) hC hB (by rw [up2_eq]) dX1_can_40 ?_
        refine lv_if_ne (tgt := 50) hx hb dX1_can_43 (by decide) (fun c4 => ?_) (fun c4 => ?_)
        · exfalso; revert c4; decide
        · refine lv_iconst (v := 1) hx hb dX1_can_46 (by decide) ?_
          refine lv_goto (tgt := 51) hx hb dX1_can_47 (by decide) ?_
          exact wr_z hC hr hlocks mov_M (hB) hS (rfl) dX1_can_51 (by rfl)
    · exfalso; revert c2; decide
set_option maxHeartbeats 4000000 in
set_option maxRecDepth 100000 in
theorem c_X1_can_tr (l : Launch) (D : va_G) (cI : ClassId) (b : Nat → Nat) (N : bS) {T R : Nat} (x y z : Int32) (hI : MI N T R) (hx0 : isI x 0 (nI R - 1) = 0) : Wr l yX1_can cX1_can 4 (some .boolean) ({ frames := 2, cells := 0, slots := 0, locals := 43 } : Room) (MW D cI b N) (MW D cI b (up2 N 5 0 1)) (inM b) [.ref (b 5), .int (x), .int (y), .int (z)] (some (.int (0))) 0 0 := by
  refine Wr.of (by decide) (Nat.le_of_ble_eq_true rfl) ?_
  intro p e s m args below meth c ls hC hr hlocks hB hS hl
  have hx := hC.1
  have hb := hC.2.1
  have hA : ∀ q, (inM b) q → (inM b) q := fun _ h => h
  obtain ⟨hT, hR, hT8, hR6⟩ := id hI
  have hl : lv_has ls 4 [(0, .ref (b 5)), (1, .int (x)), (2, .int (y)), (3, .int (z))] := hl
  refine lv_aload_n hx hb dX1_can_0 rfl (lv_at hl 0 rfl) ?_
  refine lv_aload_n hx hb dX1_can_1 rfl (lv_at hl 0 rfl) ?_
  refine lv_iload_n hx hb dX1_can_2 rfl (lv_at hl 1 rfl) ?_
  refine k_X1_isTrader hC (c_X1_isTrader_no l D cI b N (x) (hI) hx0) hB rfl ⟨rfl, rfl⟩ ⟨Nat.le_of_ble_eq_true rfl, Nat.le_of_ble_eq_true rfl⟩ ⟨Nat.zero_le _, Nat.zero_le _⟩ hl.1 rfl (Nat.le_of_ble_eq_true rfl) dX1_can_3 ?_
  refine lv_if_eq (tgt := 17) hx hb dX1_can_6 (by decide) (fun c1 => ?_) (fun c1 => ?_)
  · refine lv_iconst (v := 1) hx hb dX1_can_17 (by decide) ?_
    refine lv_goto (tgt := 36) hx hb dX1_can_18 (by decide) ?_
    refine pM_thrown hC hB hS hA dX1_can_36 (fun H locs hB hS => ?_)
    refine lv_aload_n hx hb dX1_can_39 rfl (lv_at hl 0 rfl) ?_
    refine gM_thrown (v := 1) hC hB (by rw [up2_eq]) dX1_can_40 ?_
    refine lv_if_ne (tgt := 50) hx hb dX1_can_43 (by decide) (fun c2 => ?_) (fun c2 => ?_)
    · refine lv_iconst (v := 0) hx hb dX1_can_50 (by decide) ?_
      exact wr_z hC hr hlocks mov_M (hB) hS (rfl) dX1_can_51 (by rfl)
    · exfalso; revert c2; decide
  · exfalso; revert c1; decide
set_option maxHeartbeats 4000000 in
set_option maxRecDepth 100000 in
theorem c_X1_can_to (l : Launch) (D : va_G) (cI : ClassId) (b : Nat → Nat) (N : bS) {T R : Nat} {r : Nat} (y z : Int32) (hI : MI N T R) (hr9 : r < R) (hy0 : isI y 0 (nI T - 1) = 0) : Wr l yX1_can cX1_can 4 (some .boolean) ({ frames := 2, cells := 0, slots := 0, locals := 43 } : Room) (MW D cI b N) (MW D cI b (up2 N 5 0 1)) (inM b) [.ref (b 5), .int (nI r), .int (y), .int (z)] (some (.int (0))) 0 0 := by
  refine Wr.of (by decide) (Nat.le_of_ble_eq_true rfl) ?_
  intro p e s m args below meth c ls hC hr hlocks hB hS hl
  have hx := hC.1
  have hb := hC.2.1
  have hA : ∀ q, (inM b) q → (inM b) q := fun _ h => h
  obtain ⟨hT, hR, hT8, hR6⟩ := id hI
  have hl : lv_has ls 4 [(0, .ref (b 5)), (1, .int (nI r)), (2, .int (y)), (3, .int (z))] := hl
  refine lv_aload_n hx hb dX1_can_0 rfl (lv_at hl 0 rfl) ?_
  refine lv_aload_n hx hb dX1_can_1 rfl (lv_at hl 0 rfl) ?_
  refine lv_iload_n hx hb dX1_can_2 rfl (lv_at hl 1 rfl) ?_
  refine k_X1_isTrader hC (c_X1_isTrader_ok l D cI b N (t := r) (hI) (by omega)) hB rfl ⟨rfl, rfl⟩ ⟨Nat.le_of_ble_eq_true rfl, Nat.le_of_ble_eq_true rfl⟩ ⟨Nat.zero_le _, Nat.zero_le _⟩ hl.1 rfl (Nat.le_of_ble_eq_true rfl) dX1_can_3 ?_
  refine lv_if_eq (tgt := 17) hx hb dX1_can_6 (by decide) (fun c1 => ?_) (fun c1 => ?_)
  · exfalso; revert c1; decide
  · refine lv_aload_n hx hb dX1_can_9 rfl (lv_at hl 0 rfl) ?_
    refine lv_iload_n hx hb dX1_can_10 rfl (lv_at hl 2 rfl) ?_
    refine k_X1_isTower hC (c_X1_isTower_no l D cI b N (y) (hI) hy0) hB rfl ⟨rfl, rfl⟩ ⟨Nat.le_of_ble_eq_true rfl, Nat.le_of_ble_eq_true rfl⟩ ⟨Nat.zero_le _, Nat.zero_le _⟩ hl.1 rfl (Nat.le_of_ble_eq_true rfl) dX1_can_11 ?_
    refine lv_if_ne (tgt := 21) hx hb dX1_can_14 (by decide) (fun c2 => ?_) (fun c2 => ?_)
    · exfalso; revert c2; decide
    · refine lv_iconst (v := 1) hx hb dX1_can_17 (by decide) ?_
      refine lv_goto (tgt := 36) hx hb dX1_can_18 (by decide) ?_
      refine pM_thrown hC hB hS hA dX1_can_36 (fun H locs hB hS => ?_)
      refine lv_aload_n hx hb dX1_can_39 rfl (lv_at hl 0 rfl) ?_
      refine gM_thrown (v := 1) hC hB (by rw [up2_eq]) dX1_can_40 ?_
      refine lv_if_ne (tgt := 50) hx hb dX1_can_43 (by decide) (fun c3 => ?_) (fun c3 => ?_)
      · refine lv_iconst (v := 0) hx hb dX1_can_50 (by decide) ?_
        exact wr_z hC hr hlocks mov_M (hB) hS (rfl) dX1_can_51 (by rfl)
      · exfalso; revert c3; decide
set_option maxHeartbeats 4000000 in
set_option maxRecDepth 100000 in
theorem c_X1_can_se (l : Launch) (D : va_G) (cI : ClassId) (b : Nat → Nat) (N : bS) {T R : Nat} {r t : Nat} (z : Int32) (hI : MI N T R) (hr9 : r < R) (ht : t < T) (hz0 : isI z 1 9 = 0) : Wr l yX1_can cX1_can 4 (some .boolean) ({ frames := 2, cells := 0, slots := 0, locals := 43 } : Room) (MW D cI b N) (MW D cI b (up2 N 5 0 2)) (inM b) [.ref (b 5), .int (nI r), .int (nI t), .int (z)] (some (.int (0))) 0 0 := by
  refine Wr.of (by decide) (Nat.le_of_ble_eq_true rfl) ?_
  intro p e s m args below meth c ls hC hr hlocks hB hS hl
  have hx := hC.1
  have hb := hC.2.1
  have hA : ∀ q, (inM b) q → (inM b) q := fun _ h => h
  obtain ⟨hT, hR, hT8, hR6⟩ := id hI
  have hl : lv_has ls 4 [(0, .ref (b 5)), (1, .int (nI r)), (2, .int (nI t)), (3, .int (z))] := hl
  refine lv_aload_n hx hb dX1_can_0 rfl (lv_at hl 0 rfl) ?_
  refine lv_aload_n hx hb dX1_can_1 rfl (lv_at hl 0 rfl) ?_
  refine lv_iload_n hx hb dX1_can_2 rfl (lv_at hl 1 rfl) ?_
  refine k_X1_isTrader hC (c_X1_isTrader_ok l D cI b N (t := r) (hI) (by omega)) hB rfl ⟨rfl, rfl⟩ ⟨Nat.le_of_ble_eq_true rfl, Nat.le_of_ble_eq_true rfl⟩ ⟨Nat.zero_le _, Nat.zero_le _⟩ hl.1 rfl (Nat.le_of_ble_eq_true rfl) dX1_can_3 ?_
  refine lv_if_eq (tgt := 17) hx hb dX1_can_6 (by decide) (fun c1 => ?_) (fun c1 => ?_)
  · exfalso; revert c1; decide
  · refine lv_aload_n hx hb dX1_can_9 rfl (lv_at hl 0 rfl) ?_
    refine lv_iload_n hx hb dX1_can_10 rfl (lv_at hl 2 rfl) ?_
    refine k_X1_isTower hC (c_X1_isTower_ok l D cI b N (t := t) (hI) (by omega)) hB rfl ⟨rfl, rfl⟩ ⟨Nat.le_of_ble_eq_true rfl, Nat.le_of_ble_eq_true rfl⟩ ⟨Nat.zero_le _, Nat.zero_le _⟩ hl.1 rfl (Nat.le_of_ble_eq_true rfl) dX1_can_11 ?_
    refine lv_if_ne (tgt := 21) hx hb dX1_can_14 (by decide) (fun c2 => ?_) (fun c2 => ?_)
    · refine lv_iload_n hx hb dX1_can_21 rfl (lv_at hl 3 rfl) ?_
      refine lv_iconst (v := 1) hx hb dX1_can_22 (by decide) ?_
      refine lv_bipush (v := 9) hx hb dX1_can_23 (by decide) ?_
      refine k_X1_isIn hC (c_X1_isIn_no l (z) (1) (9) hz0) mov_T trivial rfl ⟨rfl, rfl⟩ ⟨Nat.le_of_ble_eq_true rfl, Nat.le_of_ble_eq_true rfl⟩ ⟨Nat.zero_le _, Nat.zero_le _⟩ hl.1 rfl (Nat.le_of_ble_eq_true rfl) dX1_can_25 ?_
      refine lv_if_eq (tgt := 35) hx hb dX1_can_28 (by decide) (fun c3 => ?_) (fun c3 => ?_)
      · refine lv_iconst (v := 2) hx hb dX1_can_35 (by decide) ?_
        refine pM_thrown hC hB hS hA dX1_can_36 (fun H locs hB hS => ?_)
        refine lv_aload_n hx hb dX1_can_39 rfl (lv_at hl 0 rfl) ?_
        refine gM_thrown (v := 2) hC hB (by rw [up2_eq]) dX1_can_40 ?_
        refine lv_if_ne (tgt := 50) hx hb dX1_can_43 (by decide) (fun c4 => ?_) (fun c4 => ?_)
        · refine lv_iconst (v := 0) hx hb dX1_can_50 (by decide) ?_
          exact wr_z hC hr hlocks mov_M (hB) hS (rfl) dX1_can_51 (by rfl)
        · exfalso; revert c4; decide
      · exfalso; revert c3; decide
    · exfalso; revert c2; decide
set_option maxHeartbeats 4000000 in
set_option maxRecDepth 100000 in
theorem c_X1_buy_ok (l : Launch) (D : va_G) (cI : ClassId) (b : Nat → Nat) (N : bS) {T R : Nat} {r t k : Nat} (hI : MI N T R) (hr9 : r < R) (ht : t < T) (hk1 : 1 ≤ k) (hk9 : k ≤ 9) (h1 : ¬ 9 < N 3 (23 + 8 * r + t) + nI k) (h2 : mPr (up2 N 5 0 0) R t * nI k ≤ N 3 (17 + r)) : Wr l yX1_buy cX1_buy 5 (some .int) ({ frames := 4, cells := 0, slots := 0, locals := 90 } : Room) (MW D cI b N) (MW D cI b (up2 (up2 (up2 N 5 0 0) 3 (23 + 8 * r + t) (N 3 (23 + 8 * r + t) + nI k)) 3 (17 + r) (N 3 (17 + r) - mPr (up2 N 5 0 0) R t * nI k))) (inM b) [.ref (b 5), .int (nI r), .int (nI t), .int (nI k)] (some (.int (mPr (up2 N 5 0 0) R t * nI k))) 0 0 := by
  refine Wr.of (by decide) (Nat.le_of_ble_eq_true rfl) ?_
  intro p e s m args below meth c ls hC hr hlocks hB hS hl
  have hx := hC.1
  have hb := hC.2.1
  have hA : ∀ q, (inM b) q → (inM b) q := fun _ h => h
  obtain ⟨hT, hR, hT8, hR6⟩ := id hI
  have hl : lv_has ls 5 [(0, .ref (b 5)), (1, .int (nI r)), (2, .int (nI t)), (3, .int (nI k))] := hl
  refine lv_aload_n hx hb dX1_buy_0 rfl (lv_at hl 0 rfl) ?_
  refine lv_iload_n hx hb dX1_buy_1 rfl (lv_at hl 1 rfl) ?_
  refine lv_iload_n hx hb dX1_buy_2 rfl (lv_at hl 2 rfl) ?_
  refine lv_iload_n hx hb dX1_buy_3 rfl (lv_at hl 3 rfl) ?_
  refine kw_X1_can hC (c_X1_can_ok l D cI b N (r := r) (t := t) (k := k) (hI) (by omega) (by omega) (by omega) (by omega)) hB rfl ⟨rfl, rfl⟩ ⟨Nat.le_of_ble_eq_true rfl, Nat.le_of_ble_eq_true rfl⟩ ⟨Nat.le_of_ble_eq_true rfl, Nat.le_of_ble_eq_true rfl⟩ hS hA hl.1 rfl (Nat.le_of_ble_eq_true rfl) dX1_buy_4 (fun H locs hB hS => ?_)
  refine lv_if_ne (tgt := 12) hx hb dX1_buy_7 (by decide) (fun c1 => ?_) (fun c1 => ?_)
  · refine lv_aload_n hx hb dX1_buy_12 rfl (lv_at hl 0 rfl) ?_
    refine lv_iload_n hx hb dX1_buy_13 rfl (lv_at hl 2 rfl) ?_
    refine k_X1_price hC (c_X1_price l D cI b (up2 N 5 0 0) (t := t) (MI_5 (hI)) (by omega)) hB rfl ⟨rfl, rfl⟩ ⟨Nat.le_of_ble_eq_true rfl, Nat.le_of_ble_eq_true rfl⟩ ⟨Nat.zero_le _, Nat.zero_le _⟩ hl.1 rfl (Nat.le_of_ble_eq_true rfl) dX1_buy_14 ?_
    refine lv_iload_n hx hb dX1_buy_17 rfl (lv_at hl 3 rfl) ?_
    refine lv_imul hx hb dX1_buy_18 ?_
    refine lv_istore (lv' := [(4, .int ((mPr (up2 N 5 0 0) R t) * (nI k))), (0, .ref (b 5)), (1, .int (nI r)), (2, .int (nI t)), (3, .int (nI k))]) hx hb dX1_buy_19 hl (by decide) rfl (fun ls hl => ?_)
    refine lv_aload_n hx hb dX1_buy_21 rfl (lv_at hl 1 rfl) ?_
    refine gM_now hC hB dX1_buy_22 ?_
    refine lv_iload_n hx hb dX1_buy_25 rfl (lv_at hl 2 rfl) ?_
    refine lv_iload_n hx hb dX1_buy_26 rfl (lv_at hl 3 rfl) ?_
    refine k_X1_at hC (c_X1_at l (r := r) (t := t)) mov_T trivial rfl ⟨rfl, rfl⟩ ⟨Nat.le_of_ble_eq_true rfl, Nat.le_of_ble_eq_true rfl⟩ ⟨Nat.zero_le _, Nat.zero_le _⟩ hl.1 rfl (Nat.le_of_ble_eq_true rfl) dX1_buy_27 ?_
    refine lM_now (v := N 3 (23 + 8 * r + t)) (23 + 8 * r + t) hC hB rfl (by omega) (by rw [up2_ne _ _ (by omega)]) dX1_buy_30 ?_
    refine lv_iload_n hx hb dX1_buy_31 rfl (lv_at hl 4 rfl) ?_
    refine lv_iadd hx hb dX1_buy_32 ?_
    refine lv_bipush (v := 9) hx hb dX1_buy_33 (by decide) ?_
    refine lv_icmp_gt (tgt := 52) hx hb dX1_buy_35 (by decide) (fun c2 => ?_) (fun c2 => ?_)
    · exfalso; exact h1 c2
    · refine lv_aload_n hx hb dX1_buy_38 rfl (lv_at hl 1 rfl) ?_
      refine gM_now hC hB dX1_buy_39 ?_
      refine lv_bipush (v := 17) hx hb dX1_buy_42 (by decide) ?_
      refine lv_iload_n hx hb dX1_buy_44 rfl (lv_at hl 2 rfl) ?_
      refine xadd (v := nI (17 + r)) hC dX1_buy_45 (nadd (i := 17) (j := r) rfl rfl) ?_
      refine lM_now (v := N 3 (17 + r)) (17 + r) hC hB rfl (by omega) (by rw [up2_ne _ _ (by omega)]) dX1_buy_46 ?_
      refine lv_iload hx hb dX1_buy_47 (lv_at hl 0 rfl) ?_
      refine lv_icmp_ge (tgt := 58) hx hb dX1_buy_49 (by decide) (fun c3 => ?_) (fun c3 => ?_)
      · refine lv_aload_n hx hb dX1_buy_58 rfl (lv_at hl 1 rfl) ?_
        refine gM_now hC hB dX1_buy_59 ?_
        refine lv_iload_n hx hb dX1_buy_62 rfl (lv_at hl 2 rfl) ?_
        refine lv_iload_n hx hb dX1_buy_63 rfl (lv_at hl 3 rfl) ?_
        refine k_X1_at hC (c_X1_at l (r := r) (t := t)) mov_T trivial rfl ⟨rfl, rfl⟩ ⟨Nat.le_of_ble_eq_true rfl, Nat.le_of_ble_eq_true rfl⟩ ⟨Nat.zero_le _, Nat.zero_le _⟩ hl.1 rfl (Nat.le_of_ble_eq_true rfl) dX1_buy_64 ?_
        refine lv_dup2_11 hx hb dX1_buy_67 rfl rfl ?_
        refine lM_now (v := N 3 (23 + 8 * r + t)) (23 + 8 * r + t) hC hB rfl (by omega) (by rw [up2_ne _ _ (by omega)]) dX1_buy_68 ?_
        refine lv_iload_n hx hb dX1_buy_69 rfl (lv_at hl 4 rfl) ?_
        refine lv_iadd hx hb dX1_buy_70 ?_
        refine sM_now (23 + 8 * r + t) hC hB rfl (by omega) hS hA dX1_buy_71 (fun H locs hB hS => ?_)
        refine lv_aload_n hx hb dX1_buy_72 rfl (lv_at hl 1 rfl) ?_
        refine gM_now hC hB dX1_buy_73 ?_
        refine lv_bipush (v := 17) hx hb dX1_buy_76 (by decide) ?_
        refine lv_iload_n hx hb dX1_buy_78 rfl (lv_at hl 2 rfl) ?_
        refine xadd (v := nI (17 + r)) hC dX1_buy_79 (nadd (i := 17) (j := r) rfl rfl) ?_
        refine lv_dup2_11 hx hb dX1_buy_80 rfl rfl ?_
        refine lM_now (v := N 3 (17 + r)) (17 + r) hC hB rfl (by omega) (by rw [up2_ne _ _ (by omega), up2_ne _ _ (by omega)]) dX1_buy_81 ?_
        refine lv_iload hx hb dX1_buy_82 (lv_at hl 0 rfl) ?_
        refine lv_isub hx hb dX1_buy_84 ?_
        refine sM_now (17 + r) hC hB rfl (by omega) hS hA dX1_buy_85 (fun H locs hB hS => ?_)
        refine lv_iload hx hb dX1_buy_86 (lv_at hl 0 rfl) ?_
        exact wr_i hC hr hlocks mov_M (hB) hS dX1_buy_88 (by rfl)
      · exfalso; exact c3 h2
  · exfalso; revert c1; decide
set_option maxHeartbeats 4000000 in
set_option maxRecDepth 100000 in
theorem c_X1_buy_tr (l : Launch) (D : va_G) (cI : ClassId) (b : Nat → Nat) (N : bS) {T R : Nat} (x y z : Int32) (hI : MI N T R) (hx0 : isI x 0 (nI R - 1) = 0) : Wr l yX1_buy cX1_buy 5 (some .int) ({ frames := 4, cells := 0, slots := 0, locals := 90 } : Room) (MW D cI b N) (MW D cI b (up2 N 5 0 1)) (inM b) [.ref (b 5), .int (x), .int (y), .int (z)] (some (.int (0))) 0 0 := by
  refine Wr.of (by decide) (Nat.le_of_ble_eq_true rfl) ?_
  intro p e s m args below meth c ls hC hr hlocks hB hS hl
  have hx := hC.1
  have hb := hC.2.1
  have hA : ∀ q, (inM b) q → (inM b) q := fun _ h => h
  obtain ⟨hT, hR, hT8, hR6⟩ := id hI
  have hl : lv_has ls 5 [(0, .ref (b 5)), (1, .int (x)), (2, .int (y)), (3, .int (z))] := hl
  refine lv_aload_n hx hb dX1_buy_0 rfl (lv_at hl 0 rfl) ?_
  refine lv_iload_n hx hb dX1_buy_1 rfl (lv_at hl 1 rfl) ?_
  refine lv_iload_n hx hb dX1_buy_2 rfl (lv_at hl 2 rfl) ?_
  refine lv_iload_n hx hb dX1_buy_3 rfl (lv_at hl 3 rfl) ?_
  refine kw_X1_can hC (c_X1_can_tr l D cI b N (x) (y) (z) (hI) hx0) hB rfl ⟨rfl, rfl⟩ ⟨Nat.le_of_ble_eq_true rfl, Nat.le_of_ble_eq_true rfl⟩ ⟨Nat.le_of_ble_eq_true rfl, Nat.le_of_ble_eq_true rfl⟩ hS hA hl.1 rfl (Nat.le_of_ble_eq_true rfl) dX1_buy_4 (fun H locs hB hS => ?_)
  refine lv_if_ne (tgt := 12) hx hb dX1_buy_7 (by decide) (fun c1 => ?_) (fun c1 => ?_)
  · exfalso; revert c1; decide
  · refine lv_iconst (v := 0) hx hb dX1_buy_10 (by decide) ?_
    exact wr_i hC hr hlocks mov_M (hB) hS dX1_buy_11 (by rfl)
set_option maxHeartbeats 4000000 in
set_option maxRecDepth 100000 in
theorem c_X1_sell_tr (l : Launch) (D : va_G) (cI : ClassId) (b : Nat → Nat) (N : bS) {T R : Nat} (x y z : Int32) (hI : MI N T R) (hx0 : isI x 0 (nI R - 1) = 0) : Wr l yX1_sell cX1_sell 4 (some .int) ({ frames := 5, cells := 0, slots := 0, locals := 114 } : Room) (MW D cI b N) (MW D cI b (up2 N 5 0 1)) (inM b) [.ref (b 5), .int (x), .int (y), .int (z)] (some (.int (0))) 0 0 := by
  refine Wr.of (by decide) (Nat.le_of_ble_eq_true rfl) ?_
  intro p e s m args below meth c ls hC hr hlocks hB hS hl
  have hx := hC.1
  have hb := hC.2.1
  have hA : ∀ q, (inM b) q → (inM b) q := fun _ h => h
  obtain ⟨hT, hR, hT8, hR6⟩ := id hI
  have hl : lv_has ls 4 [(0, .ref (b 5)), (1, .int (x)), (2, .int (y)), (3, .int (z))] := hl
  refine lv_aload_n hx hb dX1_sell_0 rfl (lv_at hl 0 rfl) ?_
  refine lv_iload_n hx hb dX1_sell_1 rfl (lv_at hl 1 rfl) ?_
  refine lv_iload_n hx hb dX1_sell_2 rfl (lv_at hl 2 rfl) ?_
  refine lv_iload_n hx hb dX1_sell_3 rfl (lv_at hl 3 rfl) ?_
  refine kw_X1_can hC (c_X1_can_tr l D cI b N (x) (y) (z) (hI) hx0) hB rfl ⟨rfl, rfl⟩ ⟨Nat.le_of_ble_eq_true rfl, Nat.le_of_ble_eq_true rfl⟩ ⟨Nat.le_of_ble_eq_true rfl, Nat.le_of_ble_eq_true rfl⟩ hS hA hl.1 rfl (Nat.le_of_ble_eq_true rfl) dX1_sell_4 (fun H locs hB hS => ?_)
  refine lv_if_ne (tgt := 12) hx hb dX1_sell_7 (by decide) (fun c1 => ?_) (fun c1 => ?_)
  · exfalso; revert c1; decide
  · refine lv_iconst (v := 0) hx hb dX1_sell_10 (by decide) ?_
    exact wr_i hC hr hlocks mov_M (hB) hS dX1_sell_11 (by rfl)
set_option maxHeartbeats 4000000 in
set_option maxRecDepth 100000 in
theorem c_X1_buy_to (l : Launch) (D : va_G) (cI : ClassId) (b : Nat → Nat) (N : bS) {T R : Nat} {r : Nat} (y z : Int32) (hI : MI N T R) (hr9 : r < R) (hy0 : isI y 0 (nI T - 1) = 0) : Wr l yX1_buy cX1_buy 5 (some .int) ({ frames := 4, cells := 0, slots := 0, locals := 90 } : Room) (MW D cI b N) (MW D cI b (up2 N 5 0 1)) (inM b) [.ref (b 5), .int (nI r), .int (y), .int (z)] (some (.int (0))) 0 0 := by
  refine Wr.of (by decide) (Nat.le_of_ble_eq_true rfl) ?_
  intro p e s m args below meth c ls hC hr hlocks hB hS hl
  have hx := hC.1
  have hb := hC.2.1
  have hA : ∀ q, (inM b) q → (inM b) q := fun _ h => h
  obtain ⟨hT, hR, hT8, hR6⟩ := id hI
  have hl : lv_has ls 5 [(0, .ref (b 5)), (1, .int (nI r)), (2, .int (y)), (3, .int (z))] := hl
  refine lv_aload_n hx hb dX1_buy_0 rfl (lv_at hl 0 rfl) ?_
  refine lv_iload_n hx hb dX1_buy_1 rfl (lv_at hl 1 rfl) ?_
  refine lv_iload_n hx hb dX1_buy_2 rfl (lv_at hl 2 rfl) ?_
  refine lv_iload_n hx hb dX1_buy_3 rfl (lv_at hl 3 rfl) ?_
  refine kw_X1_can hC (c_X1_can_to l D cI b N (r := r) (y) (z) (hI) (by omega) hy0) hB rfl ⟨rfl, rfl⟩ ⟨Nat.le_of_ble_eq_true rfl, Nat.le_of_ble_eq_true rfl⟩ ⟨Nat.le_of_ble_eq_true rfl, Nat.le_of_ble_eq_true rfl⟩ hS hA hl.1 rfl (Nat.le_of_ble_eq_true rfl) dX1_buy_4 (fun H locs hB hS => ?_)
  refine lv_if_ne (tgt := 12) hx hb dX1_buy_7 (by decide) (fun c1 => ?_) (fun c1 => ?_)
  · exfalso; revert c1; decide
  · refine lv_iconst (v := 0) hx hb dX1_buy_10 (by decide) ?_
    exact wr_i hC hr hlocks mov_M (hB) hS dX1_buy_11 (by rfl)
set_option maxHeartbeats 4000000 in
set_option maxRecDepth 100000 in
theorem c_X1_sell_to (l : Launch) (D : va_G) (cI : ClassId) (b : Nat → Nat) (N : bS) {T R : Nat} {r : Nat} (y z : Int32) (hI : MI N T R) (hr9 : r < R) (hy0 : isI y 0 (nI T - 1) = 0) : Wr l yX1_sell cX1_sell 4 (some .int) ({ frames := 5, cells := 0, slots := 0, locals := 114 } : Room) (MW D cI b N) (MW D cI b (up2 N 5 0 1)) (inM b) [.ref (b 5), .int (nI r), .int (y), .int (z)] (some (.int (0))) 0 0 := by
  refine Wr.of (by decide) (Nat.le_of_ble_eq_true rfl) ?_
  intro p e s m args below meth c ls hC hr hlocks hB hS hl
  have hx := hC.1
  have hb := hC.2.1
  have hA : ∀ q, (inM b) q → (inM b) q := fun _ h => h
  obtain ⟨hT, hR, hT8, hR6⟩ := id hI
  have hl : lv_has ls 4 [(0, .ref (b 5)), (1, .int (nI r)), (2, .int (y)), (3, .int (z))] := hl
  refine lv_aload_n hx hb dX1_sell_0 rfl (lv_at hl 0 rfl) ?_
  refine lv_iload_n hx hb dX1_sell_1 rfl (lv_at hl 1 rfl) ?_
  refine lv_iload_n hx hb dX1_sell_2 rfl (lv_at hl 2 rfl) ?_
  refine lv_iload_n hx hb dX1_sell_3 rfl (lv_at hl 3 rfl) ?_
  refine kw_X1_can hC (c_X1_can_to l D cI b N (r := r) (y) (z) (hI) (by omega) hy0) hB rfl ⟨rfl, rfl⟩ ⟨Nat.le_of_ble_eq_true rfl, Nat.le_of_ble_eq_true rfl⟩ ⟨Nat.le_of_ble_eq_true rfl, Nat.le_of_ble_eq_true rfl⟩ hS hA hl.1 rfl (Nat.le_of_ble_eq_true rfl) dX1_sell_4 (fun H locs hB hS => ?_)
  refine lv_if_ne (tgt := 12) hx hb dX1_sell_7 (by decide) (fun c1 => ?_) (fun c1 => ?_)
  · exfalso; revert c1; decide
  · refine lv_iconst (v := 0) hx hb dX1_sell_10 (by decide) ?_
    exact wr_i hC hr hlocks mov_M (hB) hS dX1_sell_11 (by rfl)
set_option maxHeartbeats 4000000 in
set_option maxRecDepth 100000 in
theorem c_X1_buy_se (l : Launch) (D : va_G) (cI : ClassId) (b : Nat → Nat) (N : bS) {T R : Nat} {r t : Nat} (z : Int32) (hI : MI N T R) (hr9 : r < R) (ht : t < T) (hz0 : isI z 1 9 = 0) : Wr l yX1_buy cX1_buy 5 (some .int) ({ frames := 4, cells := 0, slots := 0, locals := 90 } : Room) (MW D cI b N) (MW D cI b (up2 N 5 0 2)) (inM b) [.ref (b 5), .int (nI r), .int (nI t), .int (z)] (some (.int (0))) 0 0 := by
  refine Wr.of (by decide) (Nat.le_of_ble_eq_true rfl) ?_
  intro p e s m args below meth c ls hC hr hlocks hB hS hl
  have hx := hC.1
  have hb := hC.2.1
  have hA : ∀ q, (inM b) q → (inM b) q := fun _ h => h
  obtain ⟨hT, hR, hT8, hR6⟩ := id hI
  have hl : lv_has ls 5 [(0, .ref (b 5)), (1, .int (nI r)), (2, .int (nI t)), (3, .int (z))] := hl
  refine lv_aload_n hx hb dX1_buy_0 rfl (lv_at hl 0 rfl) ?_
  refine lv_iload_n hx hb dX1_buy_1 rfl (lv_at hl 1 rfl) ?_
  refine lv_iload_n hx hb dX1_buy_2 rfl (lv_at hl 2 rfl) ?_
  refine lv_iload_n hx hb dX1_buy_3 rfl (lv_at hl 3 rfl) ?_
  refine kw_X1_can hC (c_X1_can_se l D cI b N (r := r) (t := t) (z) (hI) (by omega) (by omega) hz0) hB rfl ⟨rfl, rfl⟩ ⟨Nat.le_of_ble_eq_true rfl, Nat.le_of_ble_eq_true rfl⟩ ⟨Nat.le_of_ble_eq_true rfl, Nat.le_of_ble_eq_true rfl⟩ hS hA hl.1 rfl (Nat.le_of_ble_eq_true rfl) dX1_buy_4 (fun H locs hB hS => ?_)
  refine lv_if_ne (tgt := 12) hx hb dX1_buy_7 (by decide) (fun c1 => ?_) (fun c1 => ?_)
  · exfalso; revert c1; decide
  · refine lv_iconst (v := 0) hx hb dX1_buy_10 (by decide) ?_
    exact wr_i hC hr hlocks mov_M (hB) hS dX1_buy_11 (by rfl)
set_option maxHeartbeats 4000000 in
set_option maxRecDepth 100000 in
theorem c_X1_sell_se (l : Launch) (D : va_G) (cI : ClassId) (b : Nat → Nat) (N : bS) {T R : Nat} {r t : Nat} (z : Int32) (hI : MI N T R) (hr9 : r < R) (ht : t < T) (hz0 : isI z 1 9 = 0) : Wr l yX1_sell cX1_sell 4 (some .int) ({ frames := 5, cells := 0, slots := 0, locals := 114 } : Room) (MW D cI b N) (MW D cI b (up2 N 5 0 2)) (inM b) [.ref (b 5), .int (nI r), .int (nI t), .int (z)] (some (.int (0))) 0 0 := by
  refine Wr.of (by decide) (Nat.le_of_ble_eq_true rfl) ?_
  intro p e s m args below meth c ls hC hr hlocks hB hS hl
  have hx := hC.1
  have hb := hC.2.1
  have hA : ∀ q, (inM b) q → (inM b) q := fun _ h => h
  obtain ⟨hT, hR, hT8, hR6⟩ := id hI
  have hl : lv_has ls 4 [(0, .ref (b 5)), (1, .int (nI r)), (2, .int (nI t)), (3, .int (z))] := hl
  refine lv_aload_n hx hb dX1_sell_0 rfl (lv_at hl 0 rfl) ?_
  refine lv_iload_n hx hb dX1_sell_1 rfl (lv_at hl 1 rfl) ?_
  refine lv_iload_n hx hb dX1_sell_2 rfl (lv_at hl 2 rfl) ?_
  refine lv_iload_n hx hb dX1_sell_3 rfl (lv_at hl 3 rfl) ?_
  refine kw_X1_can hC (c_X1_can_se l D cI b N (r := r) (t := t) (z) (hI) (by omega) (by omega) hz0) hB rfl ⟨rfl, rfl⟩ ⟨Nat.le_of_ble_eq_true rfl, Nat.le_of_ble_eq_true rfl⟩ ⟨Nat.le_of_ble_eq_true rfl, Nat.le_of_ble_eq_true rfl⟩ hS hA hl.1 rfl (Nat.le_of_ble_eq_true rfl) dX1_sell_4 (fun H locs hB hS => ?_)
  refine lv_if_ne (tgt := 12) hx hb dX1_sell_7 (by decide) (fun c1 => ?_) (fun c1 => ?_)
  · exfalso; revert c1; decide
  · refine lv_iconst (v := 0) hx hb dX1_sell_10 (by decide) ?_
    exact wr_i hC hr hlocks mov_M (hB) hS dX1_sell_11 (by rfl)
set_option maxHeartbeats 4000000 in
set_option maxRecDepth 100000 in
theorem c_X1_buy_f1 (l : Launch) (D : va_G) (cI : ClassId) (b : Nat → Nat) (N : bS) {T R : Nat} {r t k : Nat} (hI : MI N T R) (hr9 : r < R) (ht : t < T) (hk1 : 1 ≤ k) (hk9 : k ≤ 9) (h1 : 9 < N 3 (23 + 8 * r + t) + nI k) : Wr l yX1_buy cX1_buy 5 (some .int) ({ frames := 4, cells := 0, slots := 0, locals := 90 } : Room) (MW D cI b N) (MW D cI b (up2 (up2 N 5 0 0) 5 0 3)) (inM b) [.ref (b 5), .int (nI r), .int (nI t), .int (nI k)] (some (.int (0))) 0 0 := by
  refine Wr.of (by decide) (Nat.le_of_ble_eq_true rfl) ?_
  intro p e s m args below meth c ls hC hr hlocks hB hS hl
  have hx := hC.1
  have hb := hC.2.1
  have hA : ∀ q, (inM b) q → (inM b) q := fun _ h => h
  obtain ⟨hT, hR, hT8, hR6⟩ := id hI
  have hl : lv_has ls 5 [(0, .ref (b 5)), (1, .int (nI r)), (2, .int (nI t)), (3, .int (nI k))] := hl
  refine lv_aload_n hx hb dX1_buy_0 rfl (lv_at hl 0 rfl) ?_
  refine lv_iload_n hx hb dX1_buy_1 rfl (lv_at hl 1 rfl) ?_
  refine lv_iload_n hx hb dX1_buy_2 rfl (lv_at hl 2 rfl) ?_
  refine lv_iload_n hx hb dX1_buy_3 rfl (lv_at hl 3 rfl) ?_
  refine kw_X1_can hC (c_X1_can_ok l D cI b N (r := r) (t := t) (k := k) (hI) (by omega) (by omega) (by omega) (by omega)) hB rfl ⟨rfl, rfl⟩ ⟨Nat.le_of_ble_eq_true rfl, Nat.le_of_ble_eq_true rfl⟩ ⟨Nat.le_of_ble_eq_true rfl, Nat.le_of_ble_eq_true rfl⟩ hS hA hl.1 rfl (Nat.le_of_ble_eq_true rfl) dX1_buy_4 (fun H locs hB hS => ?_)
  refine lv_if_ne (tgt := 12) hx hb dX1_buy_7 (by decide) (fun c1 => ?_) (fun c1 => ?_)
  · refine lv_aload_n hx hb dX1_buy_12 rfl (lv_at hl 0 rfl) ?_
    refine lv_iload_n hx hb dX1_buy_13 rfl (lv_at hl 2 rfl) ?_
    refine k_X1_price hC (c_X1_price l D cI b (up2 N 5 0 0) (t := t) (MI_5 (hI)) (by omega)) hB rfl ⟨rfl, rfl⟩ ⟨Nat.le_of_ble_eq_true rfl, Nat.le_of_ble_eq_true rfl⟩ ⟨Nat.zero_le _, Nat.zero_le _⟩ hl.1 rfl (Nat.le_of_ble_eq_true rfl) dX1_buy_14 ?_
    refine lv_iload_n hx hb dX1_buy_17 rfl (lv_at hl 3 rfl) ?_
    refine lv_imul hx hb dX1_buy_18 ?_
    refine lv_istore (lv' := [(4, .int ((mPr (up2 N 5 0 0) R t) * (nI k))), (0, .ref (b 5)), (1, .int (nI r)), (2, .int (nI t)), (3, .int (nI k))]) hx hb dX1_buy_19 hl (by decide) rfl (fun ls hl => ?_)
    refine lv_aload_n hx hb dX1_buy_21 rfl (lv_at hl 1 rfl) ?_
    refine gM_now hC hB dX1_buy_22 ?_
    refine lv_iload_n hx hb dX1_buy_25 rfl (lv_at hl 2 rfl) ?_
    refine lv_iload_n hx hb dX1_buy_26 rfl (lv_at hl 3 rfl) ?_
    refine k_X1_at hC (c_X1_at l (r := r) (t := t)) mov_T trivial rfl ⟨rfl, rfl⟩ ⟨Nat.le_of_ble_eq_true rfl, Nat.le_of_ble_eq_true rfl⟩ ⟨Nat.zero_le _, Nat.zero_le _⟩ hl.1 rfl (Nat.le_of_ble_eq_true rfl) dX1_buy_27 ?_
    refine lM_now (v := N 3 (23 + 8 * r + t)) (23 + 8 * r + t) hC hB rfl (by omega) (by rw [up2_ne _ _ (by omega)]) dX1_buy_30 ?_
    refine lv_iload_n hx hb dX1_buy_31 rfl (lv_at hl 4 rfl) ?_
    refine lv_iadd hx hb dX1_buy_32 ?_
    refine lv_bipush (v := 9) hx hb dX1_buy_33 (by decide) ?_
    refine lv_icmp_gt (tgt := 52) hx hb dX1_buy_35 (by decide) (fun c2 => ?_) (fun c2 => ?_)
    · refine lv_aload_n hx hb dX1_buy_52 rfl (lv_at hl 1 rfl) ?_
      refine lv_iconst (v := 3) hx hb dX1_buy_53 (by decide) ?_
      refine kw_X1_fail hC (c_X1_fail l D cI b (up2 N 5 0 0) (3)) hB rfl ⟨rfl, rfl⟩ ⟨Nat.le_of_ble_eq_true rfl, Nat.le_of_ble_eq_true rfl⟩ ⟨Nat.le_of_ble_eq_true rfl, Nat.le_of_ble_eq_true rfl⟩ hS hA hl.1 rfl (Nat.le_of_ble_eq_true rfl) dX1_buy_54 (fun H locs hB hS => ?_)
      exact wr_i hC hr hlocks mov_M (hB) hS dX1_buy_57 (by rfl)
    · exfalso; exact c2 h1
  · exfalso; revert c1; decide
set_option maxHeartbeats 4000000 in
set_option maxRecDepth 100000 in
theorem c_X1_buy_f2 (l : Launch) (D : va_G) (cI : ClassId) (b : Nat → Nat) (N : bS) {T R : Nat} {r t k : Nat} (hI : MI N T R) (hr9 : r < R) (ht : t < T) (hk1 : 1 ≤ k) (hk9 : k ≤ 9) (h1 : ¬ 9 < N 3 (23 + 8 * r + t) + nI k) (h2 : ¬ mPr (up2 N 5 0 0) R t * nI k ≤ N 3 (17 + r)) : Wr l yX1_buy cX1_buy 5 (some .int) ({ frames := 4, cells := 0, slots := 0, locals := 90 } : Room) (MW D cI b N) (MW D cI b (up2 (up2 N 5 0 0) 5 0 3)) (inM b) [.ref (b 5), .int (nI r), .int (nI t), .int (nI k)] (some (.int (0))) 0 0 := by
  refine Wr.of (by decide) (Nat.le_of_ble_eq_true rfl) ?_
  intro p e s m args below meth c ls hC hr hlocks hB hS hl
  have hx := hC.1
  have hb := hC.2.1
  have hA : ∀ q, (inM b) q → (inM b) q := fun _ h => h
  obtain ⟨hT, hR, hT8, hR6⟩ := id hI
  have hl : lv_has ls 5 [(0, .ref (b 5)), (1, .int (nI r)), (2, .int (nI t)), (3, .int (nI k))] := hl
  refine lv_aload_n hx hb dX1_buy_0 rfl (lv_at hl 0 rfl) ?_
  refine lv_iload_n hx hb dX1_buy_1 rfl (lv_at hl 1 rfl) ?_
  refine lv_iload_n hx hb dX1_buy_2 rfl (lv_at hl 2 rfl) ?_
  refine lv_iload_n hx hb dX1_buy_3 rfl (lv_at hl 3 rfl) ?_
  refine kw_X1_can hC (c_X1_can_ok l D cI b N (r := r) (t := t) (k := k) (hI) (by omega) (by omega) (by omega) (by omega)) hB rfl ⟨rfl, rfl⟩ ⟨Nat.le_of_ble_eq_true rfl, Nat.le_of_ble_eq_true rfl⟩ ⟨Nat.le_of_ble_eq_true rfl, Nat.le_of_ble_eq_true rfl⟩ hS hA hl.1 rfl (Nat.le_of_ble_eq_true rfl) dX1_buy_4 (fun H locs hB hS => ?_)
  refine lv_if_ne (tgt := 12) hx hb dX1_buy_7 (by decide) (fun c1 => ?_) (fun c1 => ?_)
  · refine lv_aload_n hx hb dX1_buy_12 rfl (lv_at hl 0 rfl) ?_
    refine lv_iload_n hx hb dX1_buy_13 rfl (lv_at hl 2 rfl) ?_
    refine k_X1_price hC (c_X1_price l D cI b (up2 N 5 0 0) (t := t) (MI_5 (hI)) (by omega)) hB rfl ⟨rfl, rfl⟩ ⟨Nat.le_of_ble_eq_true rfl, Nat.le_of_ble_eq_true rfl⟩ ⟨Nat.zero_le _, Nat.zero_le _⟩ hl.1 rfl (Nat.le_of_ble_eq_true rfl) dX1_buy_14 ?_
    refine lv_iload_n hx hb dX1_buy_17 rfl (lv_at hl 3 rfl) ?_
    refine lv_imul hx hb dX1_buy_18 ?_
    refine lv_istore (lv' := [(4, .int ((mPr (up2 N 5 0 0) R t) * (nI k))), (0, .ref (b 5)), (1, .int (nI r)), (2, .int (nI t)), (3, .int (nI k))]) hx hb dX1_buy_19 hl (by decide) rfl (fun ls hl => ?_)
    refine lv_aload_n hx hb dX1_buy_21 rfl (lv_at hl 1 rfl) ?_
    refine gM_now hC hB dX1_buy_22 ?_
    refine lv_iload_n hx hb dX1_buy_25 rfl (lv_at hl 2 rfl) ?_
    refine lv_iload_n hx hb dX1_buy_26 rfl (lv_at hl 3 rfl) ?_
    refine k_X1_at hC (c_X1_at l (r := r) (t := t)) mov_T trivial rfl ⟨rfl, rfl⟩ ⟨Nat.le_of_ble_eq_true rfl, Nat.le_of_ble_eq_true rfl⟩ ⟨Nat.zero_le _, Nat.zero_le _⟩ hl.1 rfl (Nat.le_of_ble_eq_true rfl) dX1_buy_27 ?_
    refine lM_now (v := N 3 (23 + 8 * r + t)) (23 + 8 * r + t) hC hB rfl (by omega) (by rw [up2_ne _ _ (by omega)]) dX1_buy_30 ?_
    refine lv_iload_n hx hb dX1_buy_31 rfl (lv_at hl 4 rfl) ?_
    refine lv_iadd hx hb dX1_buy_32 ?_
    refine lv_bipush (v := 9) hx hb dX1_buy_33 (by decide) ?_
    refine lv_icmp_gt (tgt := 52) hx hb dX1_buy_35 (by decide) (fun c2 => ?_) (fun c2 => ?_)
    · exfalso; exact h1 c2
    · refine lv_aload_n hx hb dX1_buy_38 rfl (lv_at hl 1 rfl) ?_
      refine gM_now hC hB dX1_buy_39 ?_
      refine lv_bipush (v := 17) hx hb dX1_buy_42 (by decide) ?_
      refine lv_iload_n hx hb dX1_buy_44 rfl (lv_at hl 2 rfl) ?_
      refine xadd (v := nI (17 + r)) hC dX1_buy_45 (nadd (i := 17) (j := r) rfl rfl) ?_
      refine lM_now (v := N 3 (17 + r)) (17 + r) hC hB rfl (by omega) (by rw [up2_ne _ _ (by omega)]) dX1_buy_46 ?_
      refine lv_iload hx hb dX1_buy_47 (lv_at hl 0 rfl) ?_
      refine lv_icmp_ge (tgt := 58) hx hb dX1_buy_49 (by decide) (fun c3 => ?_) (fun c3 => ?_)
      · exfalso; exact h2 c3
      · refine lv_aload_n hx hb dX1_buy_52 rfl (lv_at hl 1 rfl) ?_
        refine lv_iconst (v := 3) hx hb dX1_buy_53 (by decide) ?_
        refine kw_X1_fail hC (c_X1_fail l D cI b (up2 N 5 0 0) (3)) hB rfl ⟨rfl, rfl⟩ ⟨Nat.le_of_ble_eq_true rfl, Nat.le_of_ble_eq_true rfl⟩ ⟨Nat.le_of_ble_eq_true rfl, Nat.le_of_ble_eq_true rfl⟩ hS hA hl.1 rfl (Nat.le_of_ble_eq_true rfl) dX1_buy_54 (fun H locs hB hS => ?_)
        exact wr_i hC hr hlocks mov_M (hB) hS dX1_buy_57 (by rfl)
  · exfalso; revert c1; decide
set_option maxHeartbeats 4000000 in
set_option maxRecDepth 100000 in
theorem c_X1_sell_ok (l : Launch) (D : va_G) (cI : ClassId) (b : Nat → Nat) (N : bS) {T R : Nat} {r t k : Nat} (hI : MI N T R) (hr9 : r < R) (ht : t < T) (hk1 : 1 ≤ k) (hk9 : k ≤ 9) (h1 : -9 ≤ N 3 (23 + 8 * r + t) - nI k) : Wr l yX1_sell cX1_sell 4 (some .int) ({ frames := 5, cells := 0, slots := 0, locals := 114 } : Room) (MW D cI b N) (MW D cI b (mSo (up2 N 5 0 0) R r t k)) (inM b) [.ref (b 5), .int (nI r), .int (nI t), .int (nI k)] (some (.int (mPr (up2 N 5 0 0) R t * nI k))) 0 0 := by
  refine Wr.of (by decide) (Nat.le_of_ble_eq_true rfl) ?_
  intro p e s m args below meth c ls hC hr hlocks hB hS hl
  have hx := hC.1
  have hb := hC.2.1
  have hA : ∀ q, (inM b) q → (inM b) q := fun _ h => h
  obtain ⟨hT, hR, hT8, hR6⟩ := id hI
  have hl : lv_has ls 4 [(0, .ref (b 5)), (1, .int (nI r)), (2, .int (nI t)), (3, .int (nI k))] := hl
  refine lv_aload_n hx hb dX1_sell_0 rfl (lv_at hl 0 rfl) ?_
  refine lv_iload_n hx hb dX1_sell_1 rfl (lv_at hl 1 rfl) ?_
  refine lv_iload_n hx hb dX1_sell_2 rfl (lv_at hl 2 rfl) ?_
  refine lv_iload_n hx hb dX1_sell_3 rfl (lv_at hl 3 rfl) ?_
  refine kw_X1_can hC (c_X1_can_ok l D cI b N (r := r) (t := t) (k := k) (hI) (by omega) (by omega) (by omega) (by omega)) hB rfl ⟨rfl, rfl⟩ ⟨Nat.le_of_ble_eq_true rfl, Nat.le_of_ble_eq_true rfl⟩ ⟨Nat.le_of_ble_eq_true rfl, Nat.le_of_ble_eq_true rfl⟩ hS hA hl.1 rfl (Nat.le_of_ble_eq_true rfl) dX1_sell_4 (fun H locs hB hS => ?_)
  refine lv_if_ne (tgt := 12) hx hb dX1_sell_7 (by decide) (fun c1 => ?_) (fun c1 => ?_)
  · refine lv_aload_n hx hb dX1_sell_12 rfl (lv_at hl 0 rfl) ?_
    refine gM_now hC hB dX1_sell_13 ?_
    refine lv_iload_n hx hb dX1_sell_16 rfl (lv_at hl 1 rfl) ?_
    refine lv_iload_n hx hb dX1_sell_17 rfl (lv_at hl 2 rfl) ?_
    refine k_X1_at hC (c_X1_at l (r := r) (t := t)) mov_T trivial rfl ⟨rfl, rfl⟩ ⟨Nat.le_of_ble_eq_true rfl, Nat.le_of_ble_eq_true rfl⟩ ⟨Nat.zero_le _, Nat.zero_le _⟩ hl.1 rfl (Nat.le_of_ble_eq_true rfl) dX1_sell_18 ?_
    refine lM_now (v := N 3 (23 + 8 * r + t)) (23 + 8 * r + t) hC hB rfl (by omega) (by rw [up2_ne _ _ (by omega)]) dX1_sell_21 ?_
    refine lv_iload_n hx hb dX1_sell_22 rfl (lv_at hl 3 rfl) ?_
    refine lv_isub hx hb dX1_sell_23 ?_
    refine lv_bipush (v := -9) hx hb dX1_sell_24 (by decide) ?_
    refine lv_icmp_ge (tgt := 37) hx hb dX1_sell_26 (by decide) (fun c2 => ?_) (fun c2 => ?_)
    · refine lv_aload_n hx hb dX1_sell_37 rfl (lv_at hl 0 rfl) ?_
      refine lv_iload_n hx hb dX1_sell_38 rfl (lv_at hl 1 rfl) ?_
      refine lv_iload_n hx hb dX1_sell_39 rfl (lv_at hl 2 rfl) ?_
      refine lv_iload_n hx hb dX1_sell_40 rfl (lv_at hl 3 rfl) ?_
      refine kw_X1_sold hC (c_X1_sold l D cI b (up2 N 5 0 0) (r := r) (t := t) (k := k) (MI_5 (hI)) (by omega) (by omega)) hB rfl ⟨rfl, rfl⟩ ⟨Nat.le_of_ble_eq_true rfl, Nat.le_of_ble_eq_true rfl⟩ ⟨Nat.le_of_ble_eq_true rfl, Nat.le_of_ble_eq_true rfl⟩ hS hA hl.1 rfl (Nat.le_of_ble_eq_true rfl) dX1_sell_41 (fun H locs hB hS => ?_)
      exact wr_i hC hr hlocks mov_M (hB) hS dX1_sell_44 (by rfl)
    · exfalso; exact c2 h1
  · exfalso; revert c1; decide
set_option maxHeartbeats 4000000 in
set_option maxRecDepth 100000 in
theorem c_X1_sell_f1 (l : Launch) (D : va_G) (cI : ClassId) (b : Nat → Nat) (N : bS) {T R : Nat} {r t k : Nat} (hI : MI N T R) (hr9 : r < R) (ht : t < T) (hk1 : 1 ≤ k) (hk9 : k ≤ 9) (h1 : ¬ -9 ≤ N 3 (23 + 8 * r + t) - nI k) : Wr l yX1_sell cX1_sell 4 (some .int) ({ frames := 5, cells := 0, slots := 0, locals := 114 } : Room) (MW D cI b N) (MW D cI b (up2 (up2 N 5 0 0) 5 0 3)) (inM b) [.ref (b 5), .int (nI r), .int (nI t), .int (nI k)] (some (.int (0))) 0 0 := by
  refine Wr.of (by decide) (Nat.le_of_ble_eq_true rfl) ?_
  intro p e s m args below meth c ls hC hr hlocks hB hS hl
  have hx := hC.1
  have hb := hC.2.1
  have hA : ∀ q, (inM b) q → (inM b) q := fun _ h => h
  obtain ⟨hT, hR, hT8, hR6⟩ := id hI
  have hl : lv_has ls 4 [(0, .ref (b 5)), (1, .int (nI r)), (2, .int (nI t)), (3, .int (nI k))] := hl
  refine lv_aload_n hx hb dX1_sell_0 rfl (lv_at hl 0 rfl) ?_
  refine lv_iload_n hx hb dX1_sell_1 rfl (lv_at hl 1 rfl) ?_
  refine lv_iload_n hx hb dX1_sell_2 rfl (lv_at hl 2 rfl) ?_
  refine lv_iload_n hx hb dX1_sell_3 rfl (lv_at hl 3 rfl) ?_
  refine kw_X1_can hC (c_X1_can_ok l D cI b N (r := r) (t := t) (k := k) (hI) (by omega) (by omega) (by omega) (by omega)) hB rfl ⟨rfl, rfl⟩ ⟨Nat.le_of_ble_eq_true rfl, Nat.le_of_ble_eq_true rfl⟩ ⟨Nat.le_of_ble_eq_true rfl, Nat.le_of_ble_eq_true rfl⟩ hS hA hl.1 rfl (Nat.le_of_ble_eq_true rfl) dX1_sell_4 (fun H locs hB hS => ?_)
  refine lv_if_ne (tgt := 12) hx hb dX1_sell_7 (by decide) (fun c1 => ?_) (fun c1 => ?_)
  · refine lv_aload_n hx hb dX1_sell_12 rfl (lv_at hl 0 rfl) ?_
    refine gM_now hC hB dX1_sell_13 ?_
    refine lv_iload_n hx hb dX1_sell_16 rfl (lv_at hl 1 rfl) ?_
    refine lv_iload_n hx hb dX1_sell_17 rfl (lv_at hl 2 rfl) ?_
    refine k_X1_at hC (c_X1_at l (r := r) (t := t)) mov_T trivial rfl ⟨rfl, rfl⟩ ⟨Nat.le_of_ble_eq_true rfl, Nat.le_of_ble_eq_true rfl⟩ ⟨Nat.zero_le _, Nat.zero_le _⟩ hl.1 rfl (Nat.le_of_ble_eq_true rfl) dX1_sell_18 ?_
    refine lM_now (v := N 3 (23 + 8 * r + t)) (23 + 8 * r + t) hC hB rfl (by omega) (by rw [up2_ne _ _ (by omega)]) dX1_sell_21 ?_
    refine lv_iload_n hx hb dX1_sell_22 rfl (lv_at hl 3 rfl) ?_
    refine lv_isub hx hb dX1_sell_23 ?_
    refine lv_bipush (v := -9) hx hb dX1_sell_24 (by decide) ?_
    refine lv_icmp_ge (tgt := 37) hx hb dX1_sell_26 (by decide) (fun c2 => ?_) (fun c2 => ?_)
    · exfalso; exact h1 c2
    · refine lv_aload_n hx hb dX1_sell_29 rfl (lv_at hl 0 rfl) ?_
      refine lv_iconst (v := 3) hx hb dX1_sell_30 (by decide) ?_
      refine kw_X1_fail hC (c_X1_fail l D cI b (up2 N 5 0 0) (3)) hB rfl ⟨rfl, rfl⟩ ⟨Nat.le_of_ble_eq_true rfl, Nat.le_of_ble_eq_true rfl⟩ ⟨Nat.le_of_ble_eq_true rfl, Nat.le_of_ble_eq_true rfl⟩ hS hA hl.1 rfl (Nat.le_of_ble_eq_true rfl) dX1_sell_31 (fun H locs hB hS => ?_)
      refine lv_goto (tgt := 44) hx hb dX1_sell_34 (by decide) ?_
      exact wr_i hC hr hlocks mov_M (hB) hS dX1_sell_44 (by rfl)
  · exfalso; revert c1; decide

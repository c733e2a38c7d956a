set_option maxHeartbeats 4000000 in
set_option maxRecDepth 100000 in
theorem c_X1_doves (l : Launch) (D : va_G) (cI cQ : ClassId) (b : Nat → Nat) (N : bS) {T R : Nat} (hT8 : T ≤ 8) (hR6 : R ≤ 6) {t : Nat} (ht : t < 8) : Rd l yX1_doves cX1_doves 7 (some .int) ({ frames := 0, cells := 0, slots := 0, locals := 0 } : Room) (SW D cI cQ b N T R) [.ref (b 0), .int (nI t)] (.int (sDv N t 6)) := by
  refine Rd.of (by decide) (Nat.le_of_ble_eq_true rfl) ?_
  intro p e s m args below meth c ls hC hr hlocks hN hl
  have hx := hC.1
  have hb := hC.2.1
  have hl : lv_has ls 7 [(0, .ref (b 0)), (1, .int (nI t))] := hl
  refine lv_iconst (v := 0) hx hb dX1_doves_0 (by decide) ?_
  refine lv_istore_n (lv' := [(2, .int (0)), (0, .ref (b 0)), (1, .int (nI t))]) hx hb dX1_doves_1 rfl hl (by decide) rfl (fun ls hl => ?_)
  refine lv_aload_n hx hb dX1_doves_2 rfl (lv_at hl 1 rfl) ?_
  refine gX1_held hC hN dX1_doves_3 ?_
  refine lv_astore_n (lv' := [(3, .ref (b 3)), (2, .int (0)), (0, .ref (b 0)), (1, .int (nI t))]) hx hb dX1_doves_6 rfl hl (by decide) rfl (fun ls hl => ?_)
  refine lv_aload_n hx hb dX1_doves_7 rfl (lv_at hl 0 rfl) ?_
  refine nS_held hC hN dX1_doves_8 ?_
  refine lv_istore (lv' := [(4, .int (nI 6)), (3, .ref (b 3)), (2, .int (0)), (0, .ref (b 0)), (1, .int (nI t))]) hx hb dX1_doves_9 hl (by decide) rfl (fun ls hl => ?_)
  refine lv_iconst (v := 0) hx hb dX1_doves_11 (by decide) ?_
  refine lv_istore (lv' := [(5, .int (0)), (4, .int (nI 6)), (3, .ref (b 3)), (2, .int (0)), (0, .ref (b 0)), (1, .int (nI t))]) hx hb dX1_doves_12 hl (by decide) rfl (fun ls hl => ?_)
  refine loopU (P := fun i => ∀ ls : Array Slot, lv_has ls 7 [(5, .int (nI i)), (2, .int (sDv N t i)), (0, .ref (b 0)), (1, .int (nI t)), (3, .ref (b 3)), (4, .int (nI 6))] → W p l e ({ frames := 0, cells := 0, slots := 0, locals := 0 } : Room) s m args below meth c s.heap [] 0 0 (MQ below (k2_QcV (.int (sDv N t 6))) args s 0 0 (fun _ => False)) (F0 m 14 ls [])) (6) ?_ ?_ 0 (by omega) ls (by first | exact lv_sub hl [0, 3, 4, 5, 2, 1] rfl | (simpa using lv_sub hl [0, 3, 4, 5, 2, 1] rfl))
  · intro ls hl
    refine lv_iload hx hb dX1_doves_14 (lv_at hl 0 rfl) ?_
    refine lv_iload hx hb dX1_doves_16 (lv_at hl 5 rfl) ?_
    refine jge (i := 6) (j := 6) (tgt := 52) hC dX1_doves_18 (by decide) rfl rfl (by omega) (by omega) (fun c1 => ?_) (fun c1 => ?_)
    · refine lv_iload_n hx hb dX1_doves_52 rfl (lv_at hl 1 rfl) ?_
      exact rd_i hC hr hlocks dX1_doves_53 (by rfl)
    · exfalso; omega
  · intro i hi ih ls hl
    refine lv_iload hx hb dX1_doves_14 (lv_at hl 0 rfl) ?_
    refine lv_iload hx hb dX1_doves_16 (lv_at hl 5 rfl) ?_
    refine jge (i := i) (j := 6) (tgt := 52) hC dX1_doves_18 (by decide) rfl rfl (by omega) (by omega) (fun c2 => ?_) (fun c2 => ?_)
    · exfalso; omega
    · refine lv_aload_n hx hb dX1_doves_21 rfl (lv_at hl 4 rfl) ?_
      refine lv_iload hx hb dX1_doves_22 (lv_at hl 0 rfl) ?_
      refine lS_hr (i) hC hN rfl (by omega) dX1_doves_24 ?_
      refine lv_astore (lv' := [(6, .ref (b (4 + i))), (5, .int (nI i)), (2, .int (sDv N t i)), (0, .ref (b 0)), (1, .int (nI t)), (3, .ref (b 3)), (4, .int (nI 6))]) hx hb dX1_doves_25 hl (by decide) rfl (fun ls hl => ?_)
      refine lv_iload_n hx hb dX1_doves_27 rfl (lv_at hl 2 rfl) ?_
      refine lv_aload hx hb dX1_doves_28 (lv_at hl 0 rfl) ?_
      refine lv_iload_n hx hb dX1_doves_30 rfl (lv_at hl 4 rfl) ?_
      refine lS_held (i) (t) hC hN (by omega) rfl (by omega) rfl dX1_doves_31 ?_
      refine lv_if_ge (tgt := 43) hx hb dX1_doves_32 (by decide) (fun c3 => ?_) (fun c3 => ?_)
      · refine lv_iconst (v := 0) hx hb dX1_doves_43 (by decide) ?_
        refine lv_iadd hx hb dX1_doves_44 ?_
        refine lv_istore_n (lv' := [(2, .int ((sDv N t i) + 0)), (6, .ref (b (4 + i))), (5, .int (nI i)), (0, .ref (b 0)), (1, .int (nI t)), (3, .ref (b 3)), (4, .int (nI 6))]) hx hb dX1_doves_45 rfl hl (by decide) rfl (fun ls hl => ?_)
        refine lv_iinc (v := nI (i + 1)) (lv' := [(5, .int (nI (i + 1))), (2, .int ((sDv N t i) + 0)), (6, .ref (b (4 + i))), (0, .ref (b 0)), (1, .int (nI t)), (3, .ref (b 3)), (4, .int (nI 6))]) hx hb dX1_doves_46 hl (k := 2) rfl (ninc i) (by decide) rfl (fun ls hl => ?_)
        refine lv_goto (tgt := 14) hx hb dX1_doves_49 (by decide) ?_
        have e4 : sDv N t (i + 1) = (sDv N t i) + 0 := by show _ + (if _ then _ else _) = _; rw [if_pos c3] <;> rfl
        exact ih ls (by rw [e4]; exact lv_sub hl [0, 1, 3, 4, 5, 6] rfl)
      · refine lv_aload hx hb dX1_doves_35 (lv_at hl 0 rfl) ?_
        refine lv_iload_n hx hb dX1_doves_37 rfl (lv_at hl 4 rfl) ?_
        refine lS_held (i) (t) hC hN (by omega) rfl (by omega) rfl dX1_doves_38 ?_
        refine lv_ineg hx hb dX1_doves_39 ?_
        refine lv_goto (tgt := 44) hx hb dX1_doves_40 (by decide) ?_
        refine lv_iadd hx hb dX1_doves_44 ?_
        refine lv_istore_n (lv' := [(2, .int ((sDv N t i) + (-(N (7 + i) t)))), (6, .ref (b (4 + i))), (5, .int (nI i)), (0, .ref (b 0)), (1, .int (nI t)), (3, .ref (b 3)), (4, .int (nI 6))]) hx hb dX1_doves_45 rfl hl (by decide) rfl (fun ls hl => ?_)
        refine lv_iinc (v := nI (i + 1)) (lv' := [(5, .int (nI (i + 1))), (2, .int ((sDv N t i) + (-(N (7 + i) t)))), (6, .ref (b (4 + i))), (0, .ref (b 0)), (1, .int (nI t)), (3, .ref (b 3)), (4, .int (nI 6))]) hx hb dX1_doves_46 hl (k := 2) rfl (ninc i) (by decide) rfl (fun ls hl => ?_)
        refine lv_goto (tgt := 14) hx hb dX1_doves_49 (by decide) ?_
        have e5 : sDv N t (i + 1) = (sDv N t i) + (-(N (7 + i) t)) := by show _ + (if _ then _ else _) = _; rw [if_neg c3] <;> rfl
        exact ih ls (by rw [e5]; exact lv_sub hl [0, 1, 3, 4, 5, 6] rfl)
set_option maxHeartbeats 4000000 in
set_option maxRecDepth 100000 in
theorem c_X1_price (l : Launch) (D : va_G) (cI cQ : ClassId) (b : Nat → Nat) (N : bS) {T R : Nat} (hT8 : T ≤ 8) (hR6 : R ≤ 6) {t : Nat} (ht : t < T) : Rd l yX1_price cX1_price 3 (some .int) ({ frames := 1, cells := 0, slots := 0, locals := 26 } : Room) (SW D cI cQ b N T R) [.ref (b 0), .int (nI t)] (.int (sPr N t)) := by
  refine Rd.of (by decide) (Nat.le_of_ble_eq_true rfl) ?_
  intro p e s m args below meth c ls hC hr hlocks hN hl
  have hx := hC.1
  have hb := hC.2.1
  have hl : lv_has ls 3 [(0, .ref (b 0)), (1, .int (nI t))] := hl
  refine lv_aload_n hx hb dX1_price_0 rfl (lv_at hl 0 rfl) ?_
  refine gX1_towers hC hN dX1_price_1 ?_
  refine lv_iload_n hx hb dX1_price_4 rfl (lv_at hl 1 rfl) ?_
  refine lS_tw (t) hC hN rfl (by omega) (by omega) dX1_price_5 ?_
  refine lv_iconst (v := 3) hx hb dX1_price_6 (by decide) ?_
  refine lS_row (t) (3) hC hN (by omega) rfl (by omega) rfl dX1_price_7 ?_
  refine lv_aload_n hx hb dX1_price_8 rfl (lv_at hl 0 rfl) ?_
  refine gX1_towers hC hN dX1_price_9 ?_
  refine lv_iload_n hx hb dX1_price_12 rfl (lv_at hl 1 rfl) ?_
  refine lS_tw (t) hC hN rfl (by omega) (by omega) dX1_price_13 ?_
  refine lv_iconst (v := 0) hx hb dX1_price_14 (by decide) ?_
  refine lS_row (t) (0) hC hN (by omega) rfl (by omega) rfl dX1_price_15 ?_
  refine lv_imul hx hb dX1_price_16 ?_
  refine lv_aload_n hx hb dX1_price_17 rfl (lv_at hl 0 rfl) ?_
  refine lv_iload_n hx hb dX1_price_18 rfl (lv_at hl 1 rfl) ?_
  refine k1_X1_doves hC (c_X1_doves l D cI cQ b N hT8 hR6 (t := t) (by omega)) hN rfl ⟨rfl, rfl⟩ ⟨Nat.le_of_ble_eq_true rfl, Nat.le_of_ble_eq_true rfl⟩ ⟨Nat.zero_le _, Nat.zero_le _⟩ hl.1 rfl (Nat.le_of_ble_eq_true rfl) dX1_price_19 ?_
  refine lv_isub hx hb dX1_price_22 ?_
  refine lv_aload_n hx hb dX1_price_23 rfl (lv_at hl 0 rfl) ?_
  refine lv_iload_n hx hb dX1_price_24 rfl (lv_at hl 1 rfl) ?_
  refine k1_X1_doves hC (c_X1_doves l D cI cQ b N hT8 hR6 (t := t) (by omega)) hN rfl ⟨rfl, rfl⟩ ⟨Nat.le_of_ble_eq_true rfl, Nat.le_of_ble_eq_true rfl⟩ ⟨Nat.zero_le _, Nat.zero_le _⟩ hl.1 rfl (Nat.le_of_ble_eq_true rfl) dX1_price_25 ?_
  refine lv_isub hx hb dX1_price_28 ?_
  refine lv_istore_n (lv' := [(2, .int ((((N (20 + t) 3) * (N (20 + t) 0)) - (sDv N t 6)) - (sDv N t 6))), (0, .ref (b 0)), (1, .int (nI t))]) hx hb dX1_price_29 rfl hl (by decide) rfl (fun ls hl => ?_)
  refine lv_iload_n hx hb dX1_price_30 rfl (lv_at hl 0 rfl) ?_
  refine lv_if_ge (tgt := 38) hx hb dX1_price_31 (by decide) (fun c1 => ?_) (fun c1 => ?_)
  · refine lv_iload_n hx hb dX1_price_38 rfl (lv_at hl 0 rfl) ?_
    exact rd_i hC hr hlocks dX1_price_39 (by unfold sPr sPz; rw [if_pos c1] <;> rfl)
  · refine lv_iconst (v := 0) hx hb dX1_price_34 (by decide) ?_
    refine lv_goto (tgt := 39) hx hb dX1_price_35 (by decide) ?_
    exact rd_i hC hr hlocks dX1_price_39 (by unfold sPr sPz; rw [if_neg c1] <;> rfl)
set_option maxHeartbeats 4000000 in
set_option maxRecDepth 100000 in
theorem c_X1_until (l : Launch) (D : va_G) (cI cQ : ClassId) (b : Nat → Nat) (N : bS) {T R : Nat} (hT8 : T ≤ 8) (hR6 : R ≤ 6) {t : Nat} (ht : t < T) (hP : ∀ t, t < T → ¬ N (20 + t) 1 = 0) : Rd l yX1_until cX1_until 3 (some .int) ({ frames := 0, cells := 0, slots := 0, locals := 0 } : Room) (SW D cI cQ b N T R) [.ref (b 0), .int (nI t)] (.int (sUn N t)) := by
  refine Rd.of (by decide) (Nat.le_of_ble_eq_true rfl) ?_
  intro p e s m args below meth c ls hC hr hlocks hN hl
  have hx := hC.1
  have hb := hC.2.1
  have hl : lv_has ls 3 [(0, .ref (b 0)), (1, .int (nI t))] := hl
  refine lv_aload_n hx hb dX1_until_0 rfl (lv_at hl 0 rfl) ?_
  refine gX1_towers hC hN dX1_until_1 ?_
  refine lv_iload_n hx hb dX1_until_4 rfl (lv_at hl 1 rfl) ?_
  refine lS_tw (t) hC hN rfl (by omega) (by omega) dX1_until_5 ?_
  refine lv_iconst (v := 2) hx hb dX1_until_6 (by decide) ?_
  refine lS_row (t) (2) hC hN (by omega) rfl (by omega) rfl dX1_until_7 ?_
  refine lv_aload_n hx hb dX1_until_8 rfl (lv_at hl 0 rfl) ?_
  refine gX1_second hC hN rfl dX1_until_9 ?_
  refine lv_isub hx hb dX1_until_12 ?_
  refine lv_aload_n hx hb dX1_until_13 rfl (lv_at hl 0 rfl) ?_
  refine gX1_towers hC hN dX1_until_14 ?_
  refine lv_iload_n hx hb dX1_until_17 rfl (lv_at hl 1 rfl) ?_
  refine lS_tw (t) hC hN rfl (by omega) (by omega) dX1_until_18 ?_
  refine lv_iconst (v := 1) hx hb dX1_until_19 (by decide) ?_
  refine lS_row (t) (1) hC hN (by omega) rfl (by omega) rfl dX1_until_20 ?_
  refine lv_irem hx hb dX1_until_21 (hP t ht) ?_
  refine lv_istore_n (lv' := [(2, .int (rmi ((N (20 + t) 2) - (N 6 0)) (N (20 + t) 1))), (0, .ref (b 0)), (1, .int (nI t))]) hx hb dX1_until_22 rfl hl (by decide) rfl (fun ls hl => ?_)
  refine lv_iload_n hx hb dX1_until_23 rfl (lv_at hl 0 rfl) ?_
  refine lv_if_le (tgt := 31) hx hb dX1_until_24 (by decide) (fun c1 => ?_) (fun c1 => ?_)
  · refine lv_iload_n hx hb dX1_until_31 rfl (lv_at hl 0 rfl) ?_
    refine lv_aload_n hx hb dX1_until_32 rfl (lv_at hl 1 rfl) ?_
    refine gX1_towers hC hN dX1_until_33 ?_
    refine lv_iload_n hx hb dX1_until_36 rfl (lv_at hl 2 rfl) ?_
    refine lS_tw (t) hC hN rfl (by omega) (by omega) dX1_until_37 ?_
    refine lv_iconst (v := 1) hx hb dX1_until_38 (by decide) ?_
    refine lS_row (t) (1) hC hN (by omega) rfl (by omega) rfl dX1_until_39 ?_
    refine lv_iadd hx hb dX1_until_40 ?_
    exact rd_i hC hr hlocks dX1_until_41 (by unfold sUn sUz; rw [if_pos c1] <;> rfl)
  · refine lv_iload_n hx hb dX1_until_27 rfl (lv_at hl 0 rfl) ?_
    refine lv_goto (tgt := 41) hx hb dX1_until_28 (by decide) ?_
    exact rd_i hC hr hlocks dX1_until_41 (by unfold sUn sUz; rw [if_neg c1] <;> rfl)
set_option maxHeartbeats 4000000 in
set_option maxRecDepth 100000 in
theorem c_X1_worth (l : Launch) (D : va_G) (cI cQ : ClassId) (b : Nat → Nat) (N : bS) {T R : Nat} (hT8 : T ≤ 8) (hR6 : R ≤ 6) {r : Nat} (hr9 : r < R) : Rd l yX1_worth cX1_worth 4 (some .int) ({ frames := 2, cells := 0, slots := 0, locals := 48 } : Room) (SW D cI cQ b N T R) [.ref (b 0), .int (nI r)] (.int (sWo N T r)) := by
  refine Rd.of (by decide) (Nat.le_of_ble_eq_true rfl) ?_
  intro p e s m args below meth c ls hC hr hlocks hN hl
  have hx := hC.1
  have hb := hC.2.1
  have hl : lv_has ls 4 [(0, .ref (b 0)), (1, .int (nI r))] := hl
  refine lv_aload_n hx hb dX1_worth_0 rfl (lv_at hl 0 rfl) ?_
  refine gX1_purses hC hN dX1_worth_1 ?_
  refine lv_iload_n hx hb dX1_worth_4 rfl (lv_at hl 1 rfl) ?_
  refine lS_pur (r) hC hN rfl (by omega) (by omega) rfl dX1_worth_5 ?_
  refine lv_istore_n (lv' := [(2, .int (N 5 r)), (0, .ref (b 0)), (1, .int (nI r))]) hx hb dX1_worth_6 rfl hl (by decide) rfl (fun ls hl => ?_)
  refine lv_iconst (v := 0) hx hb dX1_worth_7 (by decide) ?_
  refine lv_istore_n (lv' := [(3, .int (0)), (2, .int (N 5 r)), (0, .ref (b 0)), (1, .int (nI r))]) hx hb dX1_worth_8 rfl hl (by decide) rfl (fun ls hl => ?_)
  refine loopU (P := fun i => ∀ ls : Array Slot, lv_has ls 4 [(3, .int (nI i)), (2, .int (sWo N i r)), (0, .ref (b 0)), (1, .int (nI r))] → W p l e ({ frames := 2, cells := 0, slots := 0, locals := 48 } : Room) s m args below meth c s.heap [] 0 0 (MQ below (k2_QcV (.int (sWo N T r))) args s 0 0 (fun _ => False)) (F0 m 9 ls [])) (T) ?_ ?_ 0 (by omega) ls (by first | exact lv_sub hl [0, 1, 2, 3] rfl | (simpa using lv_sub hl [0, 1, 2, 3] rfl))
  · intro ls hl
    refine lv_iload_n hx hb dX1_worth_9 rfl (lv_at hl 0 rfl) ?_
    refine lv_aload_n hx hb dX1_worth_10 rfl (lv_at hl 2 rfl) ?_
    refine gX1_towers hC hN dX1_worth_11 ?_
    refine nS_towers hC hN dX1_worth_14 ?_
    refine jge (i := T) (j := T) (tgt := 41) hC dX1_worth_15 (by decide) rfl rfl (by omega) (by omega) (fun c1 => ?_) (fun c1 => ?_)
    · refine lv_iload_n hx hb dX1_worth_41 rfl (lv_at hl 1 rfl) ?_
      exact rd_i hC hr hlocks dX1_worth_42 (by rfl)
    · exfalso; omega
  · intro i hi ih ls hl
    refine lv_iload_n hx hb dX1_worth_9 rfl (lv_at hl 0 rfl) ?_
    refine lv_aload_n hx hb dX1_worth_10 rfl (lv_at hl 2 rfl) ?_
    refine gX1_towers hC hN dX1_worth_11 ?_
    refine nS_towers hC hN dX1_worth_14 ?_
    refine jge (i := i) (j := T) (tgt := 41) hC dX1_worth_15 (by decide) rfl rfl (by omega) (by omega) (fun c2 => ?_) (fun c2 => ?_)
    · exfalso; omega
    · refine lv_iload_n hx hb dX1_worth_18 rfl (lv_at hl 1 rfl) ?_
      refine lv_aload_n hx hb dX1_worth_19 rfl (lv_at hl 2 rfl) ?_
      refine gX1_held hC hN dX1_worth_20 ?_
      refine lv_iload_n hx hb dX1_worth_23 rfl (lv_at hl 3 rfl) ?_
      refine lS_hr (r) hC hN rfl (by omega) dX1_worth_24 ?_
      refine lv_iload_n hx hb dX1_worth_25 rfl (lv_at hl 0 rfl) ?_
      refine lS_held (r) (i) hC hN (by omega) rfl (by omega) rfl dX1_worth_26 ?_
      refine lv_aload_n hx hb dX1_worth_27 rfl (lv_at hl 2 rfl) ?_
      refine lv_iload_n hx hb dX1_worth_28 rfl (lv_at hl 0 rfl) ?_
      refine k1_X1_price hC (c_X1_price l D cI cQ b N hT8 hR6 (t := i) (by omega)) hN rfl ⟨rfl, rfl⟩ ⟨Nat.le_of_ble_eq_true rfl, Nat.le_of_ble_eq_true rfl⟩ ⟨Nat.zero_le _, Nat.zero_le _⟩ hl.1 rfl (Nat.le_of_ble_eq_true rfl) dX1_worth_29 ?_
      refine lv_imul hx hb dX1_worth_32 ?_
      refine lv_iadd hx hb dX1_worth_33 ?_
      refine lv_istore_n (lv' := [(2, .int ((sWo N i r) + ((N (7 + r) i) * (sPr N i)))), (3, .int (nI i)), (0, .ref (b 0)), (1, .int (nI r))]) hx hb dX1_worth_34 rfl hl (by decide) rfl (fun ls hl => ?_)
      refine lv_iinc (v := nI (i + 1)) (lv' := [(3, .int (nI (i + 1))), (2, .int ((sWo N i r) + ((N (7 + r) i) * (sPr N i)))), (0, .ref (b 0)), (1, .int (nI r))]) hx hb dX1_worth_35 hl (k := 1) rfl (ninc i) (by decide) rfl (fun ls hl => ?_)
      refine lv_goto (tgt := 9) hx hb dX1_worth_38 (by decide) ?_
      exact ih ls (lv_sub hl [0, 1, 2, 3] rfl)
set_option maxHeartbeats 4000000 in
set_option maxRecDepth 100000 in
theorem c_X1_sell (l : Launch) (D : va_G) (cI cQ : ClassId) (b : Nat → Nat) (N : bS) {T R : Nat} (hT8 : T ≤ 8) (hR6 : R ≤ 6) {r t : Nat} {x : Int32} (hr9 : r < R) (ht : t < T) : Wr l yX1_sell cX1_sell 4 none ({ frames := 2, cells := 0, slots := 0, locals := 48 } : Room) (SW D cI cQ b N T R) (SW D cI cQ b (nSl N r t x) T R) (inG (10 + T) b) [.ref (b 0), .int (nI r), .int (nI t), .int (x)] none 0 0 := by
  refine Wr.of (by decide) (Nat.le_of_ble_eq_true rfl) ?_
  intro p e s m args below meth c ls hC hr hlocks hN hS hl
  have hx := hC.1
  have hb := hC.2.1
  have hA : ∀ q, (inG (10 + T) b) q → (inG (10 + T) b) q := fun _ h => h
  have hl : lv_has ls 4 [(0, .ref (b 0)), (1, .int (nI r)), (2, .int (nI t)), (3, .int (x))] := hl
  refine lv_aload_n hx hb dX1_sell_0 rfl (lv_at hl 0 rfl) ?_
  refine gX1_purses hC hN dX1_sell_1 ?_
  refine lv_iload_n hx hb dX1_sell_4 rfl (lv_at hl 1 rfl) ?_
  refine lv_dup2_11 hx hb dX1_sell_5 rfl rfl ?_
  refine lS_pur (r) hC hN rfl (by omega) (by omega) rfl dX1_sell_6 ?_
  refine lv_iload_n hx hb dX1_sell_7 rfl (lv_at hl 3 rfl) ?_
  refine lv_aload_n hx hb dX1_sell_8 rfl (lv_at hl 0 rfl) ?_
  refine lv_iload_n hx hb dX1_sell_9 rfl (lv_at hl 2 rfl) ?_
  refine k1_X1_price hC (c_X1_price l D cI cQ b N hT8 hR6 (t := t) (by omega)) hN rfl ⟨rfl, rfl⟩ ⟨Nat.le_of_ble_eq_true rfl, Nat.le_of_ble_eq_true rfl⟩ ⟨Nat.zero_le _, Nat.zero_le _⟩ hl.1 rfl (Nat.le_of_ble_eq_true rfl) dX1_sell_10 ?_
  refine lv_imul hx hb dX1_sell_13 ?_
  refine lv_iadd hx hb dX1_sell_14 ?_
  refine sS_pur (r) hC hN (by omega) rfl (by omega) hS hA dX1_sell_15 (fun H locs hN hS hz hf => ?_)
  refine lv_aload_n hx hb dX1_sell_16 rfl (lv_at hl 0 rfl) ?_
  refine gX1_held hC hN dX1_sell_17 ?_
  refine lv_iload_n hx hb dX1_sell_20 rfl (lv_at hl 1 rfl) ?_
  refine lS_hr (r) hC hN rfl (by omega) dX1_sell_21 ?_
  refine lv_iload_n hx hb dX1_sell_22 rfl (lv_at hl 2 rfl) ?_
  refine lv_dup2_11 hx hb dX1_sell_23 rfl rfl ?_
  refine lS_held (v := N (7 + r) t) (r) (t) hC hN (by omega) rfl (by omega) (by rw [up2_ne _ _ (by omega)]) dX1_sell_24 ?_
  refine lv_iload_n hx hb dX1_sell_25 rfl (lv_at hl 3 rfl) ?_
  refine lv_isub hx hb dX1_sell_26 ?_
  refine sS_held (r) (t) hC hN (by omega) rfl (by omega) hS hA dX1_sell_27 (fun H locs hN hS hz hf => ?_)
  exact wr_v hC hr hlocks mov_S (hN) hS dX1_sell_28

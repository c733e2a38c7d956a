set_option maxHeartbeats 4000000 in
set_option maxRecDepth 100000 in
theorem c_X1_isIn (l : Launch) (x y z : Int32)  : Rd l yX1_isIn cX1_isIn 3 (some .boolean) ({ frames := 0, cells := 0, slots := 0, locals := 0 } : Room) (fun _ _ => True) [.int (x), .int (y), .int (z)] (.int (isI x y z)) := by
  refine Rd.of (by decide) (Nat.le_of_ble_eq_true rfl) ?_
  intro p e s m args below meth c ls hC hr hlocks hB hl
  have hx := hC.1
  have hb := hC.2.1
  have hl : lv_has ls 3 [(0, .int (x)), (1, .int (y)), (2, .int (z))] := hl
  refine lv_iload_n hx hb dX1_isIn_0 rfl (lv_at hl 0 rfl) ?_
  refine lv_iload_n hx hb dX1_isIn_1 rfl (lv_at hl 1 rfl) ?_
  refine lv_icmp_lt (tgt := 14) hx hb dX1_isIn_2 (by decide) (fun c1 => ?_) (fun c1 => ?_)
  · refine lv_iconst (v := 0) hx hb dX1_isIn_14 (by decide) ?_
    exact rd_z hC hr hlocks (rfl) dX1_isIn_15 (by unfold isI; rw [if_pos c1])
  · refine lv_iload_n hx hb dX1_isIn_5 rfl (lv_at hl 0 rfl) ?_
    refine lv_iload_n hx hb dX1_isIn_6 rfl (lv_at hl 2 rfl) ?_
    refine lv_icmp_gt (tgt := 14) hx hb dX1_isIn_7 (by decide) (fun c2 => ?_) (fun c2 => ?_)
    · refine lv_iconst (v := 0) hx hb dX1_isIn_14 (by decide) ?_
      exact rd_z hC hr hlocks (rfl) dX1_isIn_15 (by unfold isI; rw [if_neg c1, if_pos c2])
    · refine lv_iconst (v := 1) hx hb dX1_isIn_10 (by decide) ?_
      refine lv_goto (tgt := 15) hx hb dX1_isIn_11 (by decide) ?_
      exact rd_z hC hr hlocks (rfl) dX1_isIn_15 (by unfold isI; rw [if_neg c1, if_neg c2])
theorem c_X1_isIn_ok (l : Launch) {v lo hi : Nat} (h1 : lo ≤ v) (h2 : v ≤ hi) (h3 : hi < 2 ^ 31) : Rd l yX1_isIn cX1_isIn 3 (some .boolean) ({ frames := 0, cells := 0, slots := 0, locals := 0 } : Room) (fun _ _ => True) [.int (nI v), .int (nI lo), .int (nI hi)] (.int 1) := by
  have h := c_X1_isIn l (nI v) (nI lo) (nI hi)
  rw [isI_one h1 h2 h3] at h
  exact h
theorem c_X1_isIn_no (l : Launch) (x y z : Int32) (h0 : isI x y z = 0) : Rd l yX1_isIn cX1_isIn 3 (some .boolean) ({ frames := 0, cells := 0, slots := 0, locals := 0 } : Room) (fun _ _ => True) [.int x, .int y, .int z] (.int 0) := by
  have h := c_X1_isIn l x y z
  rw [h0] at h
  exact h
set_option maxHeartbeats 4000000 in
set_option maxRecDepth 100000 in
theorem c_X1_at (l : Launch) {r t : Nat}  : Rd l yX1_at cX1_at 2 (some .int) ({ frames := 0, cells := 0, slots := 0, locals := 0 } : Room) (fun _ _ => True) [.int (nI r), .int (nI t)] (.int (nI (23 + 8 * r + t))) := by
  refine Rd.of (by decide) (Nat.le_of_ble_eq_true rfl) ?_
  intro p e s m args below meth c ls hC hr hlocks hB hl
  have hx := hC.1
  have hb := hC.2.1
  have hl : lv_has ls 2 [(0, .int (nI r)), (1, .int (nI t))] := hl
  refine lv_bipush (v := 23) hx hb dX1_at_0 (by decide) ?_
  refine lv_bipush (v := 8) hx hb dX1_at_2 (by decide) ?_
  refine lv_iload_n hx hb dX1_at_4 rfl (lv_at hl 0 rfl) ?_
  refine xmul (v := nI (8 * r)) hC dX1_at_5 (nmul (i := 8) (j := r) rfl rfl) ?_
  refine xadd (v := nI (23 + (8 * r))) hC dX1_at_6 (nadd (i := 23) (j := 8 * r) rfl rfl) ?_
  refine lv_iload_n hx hb dX1_at_7 rfl (lv_at hl 1 rfl) ?_
  refine xadd (v := nI ((23 + (8 * r)) + t)) hC dX1_at_8 (nadd (i := 23 + (8 * r)) (j := t) rfl rfl) ?_
  exact rd_i hC hr hlocks dX1_at_9 (by rfl)
set_option maxHeartbeats 4000000 in
set_option maxRecDepth 100000 in
theorem c_X1_isTower (l : Launch) (D : va_G) (cI : ClassId) (b : Nat → Nat) (N : bS) {T R : Nat} (x : Int32) (hI : MI N T R) : Rd l yX1_isTower cX1_isTower 2 (some .boolean) ({ frames := 1, cells := 0, slots := 0, locals := 22 } : Room) (MW D cI b N) [.ref (b 5), .int (x)] (.int (isI x 0 (nI T - 1))) := by
  refine Rd.of (by decide) (Nat.le_of_ble_eq_true rfl) ?_
  intro p e s m args below meth c ls hC hr hlocks hB hl
  have hx := hC.1
  have hb := hC.2.1
  obtain ⟨hT, hR, hT8, hR6⟩ := id hI
  have hl : lv_has ls 2 [(0, .ref (b 5)), (1, .int (x))] := hl
  refine lv_iload_n hx hb dX1_isTower_0 rfl (lv_at hl 1 rfl) ?_
  refine lv_iconst (v := 0) hx hb dX1_isTower_1 (by decide) ?_
  refine lv_aload_n hx hb dX1_isTower_2 rfl (lv_at hl 0 rfl) ?_
  refine gM_towers hC hB hT dX1_isTower_3 ?_
  refine lv_iconst (v := 1) hx hb dX1_isTower_6 (by decide) ?_
  refine lv_isub hx hb dX1_isTower_7 ?_
  refine k_X1_isIn hC (c_X1_isIn l (x) (0) ((nI T) - 1)) mov_T trivial rfl ⟨rfl, rfl⟩ ⟨Nat.le_of_ble_eq_true rfl, Nat.le_of_ble_eq_true rfl⟩ ⟨Nat.zero_le _, Nat.zero_le _⟩ hl.1 rfl (Nat.le_of_ble_eq_true rfl) dX1_isTower_8 ?_
  exact rd_z hC hr hlocks (isI_nar _ _ _) dX1_isTower_11 (by rfl)
theorem c_X1_isTower_ok (l : Launch) (D : va_G) (cI : ClassId) (b : Nat → Nat) (N : bS) {T R t : Nat} (hI : MI N T R) (ht : t < T) : Rd l yX1_isTower cX1_isTower 2 (some .boolean) ({ frames := 1, cells := 0, slots := 0, locals := 22 } : Room) (MW D cI b N) [.ref (b 5), .int (nI t)] (.int 1) := by
  have h := c_X1_isTower l D cI b N (nI t) hI
  have h8 := hI.2.2
  rw [show nI T - 1 = nI (T - 1) from pk_sub (a := T) (b := 1) (by omega), show (0 : Int32) = nI 0 from rfl, isI_one (Nat.zero_le t) (by omega) (by omega)] at h
  exact h
theorem c_X1_isTower_no (l : Launch) (D : va_G) (cI : ClassId) (b : Nat → Nat) (N : bS) {T R : Nat} (x : Int32) (hI : MI N T R) (h0 : isI x 0 (nI T - 1) = 0) : Rd l yX1_isTower cX1_isTower 2 (some .boolean) ({ frames := 1, cells := 0, slots := 0, locals := 22 } : Room) (MW D cI b N) [.ref (b 5), .int x] (.int 0) := by
  have h := c_X1_isTower l D cI b N x hI
  rw [h0] at h
  exact h
set_option maxHeartbeats 4000000 in
set_option maxRecDepth 100000 in
theorem c_X1_isTrader (l : Launch) (D : va_G) (cI : ClassId) (b : Nat → Nat) (N : bS) {T R : Nat} (x : Int32) (hI : MI N T R) : Rd l yX1_isTrader cX1_isTrader 2 (some .boolean) ({ frames := 1, cells := 0, slots := 0, locals := 22 } : Room) (MW D cI b N) [.ref (b 5), .int (x)] (.int (isI x 0 (nI R - 1))) := by
  refine Rd.of (by decide) (Nat.le_of_ble_eq_true rfl) ?_
  intro p e s m args below meth c ls hC hr hlocks hB hl
  have hx := hC.1
  have hb := hC.2.1
  obtain ⟨hT, hR, hT8, hR6⟩ := id hI
  have hl : lv_has ls 2 [(0, .ref (b 5)), (1, .int (x))] := hl
  refine lv_iload_n hx hb dX1_isTrader_0 rfl (lv_at hl 1 rfl) ?_
  refine lv_iconst (v := 0) hx hb dX1_isTrader_1 (by decide) ?_
  refine lv_aload_n hx hb dX1_isTrader_2 rfl (lv_at hl 0 rfl) ?_
  refine gM_traders hC hB hR dX1_isTrader_3 ?_
  refine lv_iconst (v := 1) hx hb dX1_isTrader_6 (by decide) ?_
  refine lv_isub hx hb dX1_isTrader_7 ?_
  refine k_X1_isIn hC (c_X1_isIn l (x) (0) ((nI R) - 1)) mov_T trivial rfl ⟨rfl, rfl⟩ ⟨Nat.le_of_ble_eq_true rfl, Nat.le_of_ble_eq_true rfl⟩ ⟨Nat.zero_le _, Nat.zero_le _⟩ hl.1 rfl (Nat.le_of_ble_eq_true rfl) dX1_isTrader_8 ?_
  exact rd_z hC hr hlocks (isI_nar _ _ _) dX1_isTrader_11 (by rfl)
theorem c_X1_isTrader_ok (l : Launch) (D : va_G) (cI : ClassId) (b : Nat → Nat) (N : bS) {T R t : Nat} (hI : MI N T R) (ht : t < R) : Rd l yX1_isTrader cX1_isTrader 2 (some .boolean) ({ frames := 1, cells := 0, slots := 0, locals := 22 } : Room) (MW D cI b N) [.ref (b 5), .int (nI t)] (.int 1) := by
  have h := c_X1_isTrader l D cI b N (nI t) hI
  have h8 := hI.2.2
  rw [show nI R - 1 = nI (R - 1) from pk_sub (a := R) (b := 1) (by omega), show (0 : Int32) = nI 0 from rfl, isI_one (Nat.zero_le t) (by omega) (by omega)] at h
  exact h
theorem c_X1_isTrader_no (l : Launch) (D : va_G) (cI : ClassId) (b : Nat → Nat) (N : bS) {T R : Nat} (x : Int32) (hI : MI N T R) (h0 : isI x 0 (nI R - 1) = 0) : Rd l yX1_isTrader cX1_isTrader 2 (some .boolean) ({ frames := 1, cells := 0, slots := 0, locals := 22 } : Room) (MW D cI b N) [.ref (b 5), .int x] (.int 0) := by
  have h := c_X1_isTrader l D cI b N x hI
  rw [h0] at h
  exact h
set_option maxHeartbeats 4000000 in
set_option maxRecDepth 100000 in
theorem c_X1_doves (l : Launch) (D : va_G) (cI : ClassId) (b : Nat → Nat) (N : bS) {T R : Nat} {t : Nat} (hI : MI N T R) (ht : t < T) : Rd l yX1_doves cX1_doves 4 (some .int) ({ frames := 1, cells := 0, slots := 0, locals := 24 } : Room) (MW D cI b N) [.ref (b 5), .int (nI t)] (.int (mDv N R t)) := by
  refine Rd.of (by decide) (Nat.le_of_ble_eq_true rfl) ?_
  intro p e s m args below meth c ls hC hr hlocks hB hl
  have hx := hC.1
  have hb := hC.2.1
  obtain ⟨hT, hR, hT8, hR6⟩ := id hI
  have hl : lv_has ls 4 [(0, .ref (b 5)), (1, .int (nI t))] := hl
  refine lv_iconst (v := 0) hx hb dX1_doves_0 (by decide) ?_
  refine lv_istore_n (lv' := [(2, .int (0)), (0, .ref (b 5)), (1, .int (nI t))]) hx hb dX1_doves_1 rfl hl (by decide) rfl (fun ls hl => ?_)
  refine lv_iconst (v := 0) hx hb dX1_doves_2 (by decide) ?_
  refine lv_istore_n (lv' := [(3, .int (0)), (2, .int (0)), (0, .ref (b 5)), (1, .int (nI t))]) hx hb dX1_doves_3 rfl hl (by decide) rfl (fun ls hl => ?_)
  refine loopU (P := fun i => ∀ ls : Array Slot, lv_has ls 4 [(3, .int (nI i)), (2, .int (mDv N i t)), (0, .ref (b 5)), (1, .int (nI t))] → W p l e ({ frames := 1, cells := 0, slots := 0, locals := 24 } : Room) s m args below meth c s.heap [] 0 0 (MQ below (k2_QcV (.int (mDv N R t))) args s 0 0 (fun _ => False)) (F0 m 4 ls [])) (R) ?_ ?_ 0 (by omega) ls (by first | exact lv_sub hl [0, 1, 2, 3] rfl | (simpa using lv_sub hl [0, 1, 2, 3] rfl))
  · intro ls hl
    refine lv_iload_n hx hb dX1_doves_4 rfl (lv_at hl 0 rfl) ?_
    refine lv_aload_n hx hb dX1_doves_5 rfl (lv_at hl 2 rfl) ?_
    refine gM_traders hC hB hR dX1_doves_6 ?_
    refine jge (i := R) (j := R) (tgt := 36) hC dX1_doves_9 (by decide) rfl rfl (by omega) (by omega) (fun c1 => ?_) (fun c1 => ?_)
    · refine lv_iload_n hx hb dX1_doves_36 rfl (lv_at hl 1 rfl) ?_
      exact rd_i hC hr hlocks dX1_doves_37 (by rfl)
    · exfalso; omega
  · intro i hi ih ls hl
    refine lv_iload_n hx hb dX1_doves_4 rfl (lv_at hl 0 rfl) ?_
    refine lv_aload_n hx hb dX1_doves_5 rfl (lv_at hl 2 rfl) ?_
    refine gM_traders hC hB hR dX1_doves_6 ?_
    refine jge (i := i) (j := R) (tgt := 36) hC dX1_doves_9 (by decide) rfl rfl (by omega) (by omega) (fun c2 => ?_) (fun c2 => ?_)
    · exfalso; omega
    · refine lv_iload_n hx hb dX1_doves_12 rfl (lv_at hl 1 rfl) ?_
      refine lv_iconst (v := 0) hx hb dX1_doves_13 (by decide) ?_
      refine lv_aload_n hx hb dX1_doves_14 rfl (lv_at hl 2 rfl) ?_
      refine gM_now hC hB dX1_doves_15 ?_
      refine lv_iload_n hx hb dX1_doves_18 rfl (lv_at hl 0 rfl) ?_
      refine lv_iload_n hx hb dX1_doves_19 rfl (lv_at hl 3 rfl) ?_
      refine k_X1_at hC (c_X1_at l (r := i) (t := t)) mov_T trivial rfl ⟨rfl, rfl⟩ ⟨Nat.le_of_ble_eq_true rfl, Nat.le_of_ble_eq_true rfl⟩ ⟨Nat.zero_le _, Nat.zero_le _⟩ hl.1 rfl (Nat.le_of_ble_eq_true rfl) dX1_doves_20 ?_
      refine lM_now (23 + 8 * i + t) hC hB rfl (by omega) rfl dX1_doves_23 ?_
      refine lv_ineg hx hb dX1_doves_24 ?_
      refine k_X1_max hC hl.1 ⟨Nat.le_of_ble_eq_true rfl, Nat.le_of_ble_eq_true rfl⟩ ⟨Nat.le_of_ble_eq_true rfl, Nat.le_of_ble_eq_true rfl⟩ dX1_doves_25 ?_
      refine lv_iadd hx hb dX1_doves_28 ?_
      refine lv_istore_n (lv' := [(2, .int ((mDv N i t) + (mx 0 (-(N 3 (23 + 8 * i + t)))))), (3, .int (nI i)), (0, .ref (b 5)), (1, .int (nI t))]) hx hb dX1_doves_29 rfl hl (by decide) rfl (fun ls hl => ?_)
      refine lv_iinc (v := nI (i + 1)) (lv' := [(3, .int (nI (i + 1))), (2, .int ((mDv N i t) + (mx 0 (-(N 3 (23 + 8 * i + t)))))), (0, .ref (b 5)), (1, .int (nI t))]) hx hb dX1_doves_30 hl (k := 1) rfl (ninc i) (by decide) rfl (fun ls hl => ?_)
      refine lv_goto (tgt := 4) hx hb dX1_doves_33 (by decide) ?_
      exact ih ls (lv_sub hl [0, 1, 2, 3] rfl)
set_option maxHeartbeats 4000000 in
set_option maxRecDepth 100000 in
theorem c_X1_priceBehind (l : Launch) (D : va_G) (cI : ClassId) (b : Nat → Nat) (N : bS) {T R : Nat} {t : Nat} (x : Int32) (hI : MI N T R) (ht : t < T) : Rd l yX1_priceBehind cX1_priceBehind 3 (some .int) ({ frames := 2, cells := 0, slots := 0, locals := 47 } : Room) (MW D cI b N) [.ref (b 5), .int (nI t), .int (x)] (.int (mPb N R t x)) := by
  refine Rd.of (by decide) (Nat.le_of_ble_eq_true rfl) ?_
  intro p e s m args below meth c ls hC hr hlocks hB hl
  have hx := hC.1
  have hb := hC.2.1
  obtain ⟨hT, hR, hT8, hR6⟩ := id hI
  have hl : lv_has ls 3 [(0, .ref (b 5)), (1, .int (nI t)), (2, .int (x))] := hl
  refine lv_iconst (v := 0) hx hb dX1_priceBehind_0 (by decide) ?_
  refine lv_aload_n hx hb dX1_priceBehind_1 rfl (lv_at hl 0 rfl) ?_
  refine gM_now hC hB dX1_priceBehind_2 ?_
  refine lv_iconst (v := 1) hx hb dX1_priceBehind_5 (by decide) ?_
  refine lv_iload_n hx hb dX1_priceBehind_6 rfl (lv_at hl 1 rfl) ?_
  refine xadd (v := nI (1 + t)) hC dX1_priceBehind_7 (nadd (i := 1) (j := t) rfl rfl) ?_
  refine lM_now (1 + t) hC hB rfl (by omega) rfl dX1_priceBehind_8 ?_
  refine lv_iload_n hx hb dX1_priceBehind_9 rfl (lv_at hl 2 rfl) ?_
  refine lv_iadd hx hb dX1_priceBehind_10 ?_
  refine lv_aload_n hx hb dX1_priceBehind_11 rfl (lv_at hl 0 rfl) ?_
  refine gM_loud hC hB dX1_priceBehind_12 ?_
  refine lv_iload_n hx hb dX1_priceBehind_15 rfl (lv_at hl 1 rfl) ?_
  refine lM_loud (t) hC hB rfl (by omega) rfl dX1_priceBehind_16 ?_
  refine lv_imul hx hb dX1_priceBehind_17 ?_
  refine lv_iconst (v := 2) hx hb dX1_priceBehind_18 (by decide) ?_
  refine lv_aload_n hx hb dX1_priceBehind_19 rfl (lv_at hl 0 rfl) ?_
  refine lv_iload_n hx hb dX1_priceBehind_20 rfl (lv_at hl 1 rfl) ?_
  refine k_X1_doves hC (c_X1_doves l D cI b N (t := t) (hI) (by omega)) hB rfl ⟨rfl, rfl⟩ ⟨Nat.le_of_ble_eq_true rfl, Nat.le_of_ble_eq_true rfl⟩ ⟨Nat.zero_le _, Nat.zero_le _⟩ hl.1 rfl (Nat.le_of_ble_eq_true rfl) dX1_priceBehind_21 ?_
  refine lv_imul hx hb dX1_priceBehind_24 ?_
  refine lv_isub hx hb dX1_priceBehind_25 ?_
  refine k_X1_max hC hl.1 ⟨Nat.le_of_ble_eq_true rfl, Nat.le_of_ble_eq_true rfl⟩ ⟨Nat.le_of_ble_eq_true rfl, Nat.le_of_ble_eq_true rfl⟩ dX1_priceBehind_26 ?_
  exact rd_i hC hr hlocks dX1_priceBehind_29 (by rfl)
set_option maxHeartbeats 4000000 in
set_option maxRecDepth 100000 in
theorem c_X1_price (l : Launch) (D : va_G) (cI : ClassId) (b : Nat → Nat) (N : bS) {T R : Nat} {t : Nat} (hI : MI N T R) (ht : t < T) : Rd l yX1_price cX1_price 2 (some .int) ({ frames := 3, cells := 0, slots := 0, locals := 69 } : Room) (MW D cI b N) [.ref (b 5), .int (nI t)] (.int (mPr N R t)) := by
  refine Rd.of (by decide) (Nat.le_of_ble_eq_true rfl) ?_
  intro p e s m args below meth c ls hC hr hlocks hB hl
  have hx := hC.1
  have hb := hC.2.1
  obtain ⟨hT, hR, hT8, hR6⟩ := id hI
  have hl : lv_has ls 2 [(0, .ref (b 5)), (1, .int (nI t))] := hl
  refine lv_aload_n hx hb dX1_price_0 rfl (lv_at hl 0 rfl) ?_
  refine lv_iload_n hx hb dX1_price_1 rfl (lv_at hl 1 rfl) ?_
  refine lv_iconst (v := 0) hx hb dX1_price_2 (by decide) ?_
  refine k_X1_priceBehind hC (c_X1_priceBehind l D cI b N (t := t) (0) (hI) (by omega)) hB rfl ⟨rfl, rfl⟩ ⟨Nat.le_of_ble_eq_true rfl, Nat.le_of_ble_eq_true rfl⟩ ⟨Nat.zero_le _, Nat.zero_le _⟩ hl.1 rfl (Nat.le_of_ble_eq_true rfl) dX1_price_3 ?_
  exact rd_i hC hr hlocks dX1_price_6 (by rfl)
set_option maxHeartbeats 4000000 in
set_option maxRecDepth 100000 in
theorem c_X1_until (l : Launch) (D : va_G) (cI : ClassId) (b : Nat → Nat) (N : bS) {T R : Nat} {t u : Nat} (hI : MI N T R) (ht : t < T) (hU : mU N t u) (hP : mP N T) : Rd l yX1_until cX1_until 3 (some .int) ({ frames := 0, cells := 0, slots := 0, locals := 0 } : Room) (MW D cI b N) [.ref (b 5), .int (nI t)] (.int (nI u)) := by
  refine Rd.of (by decide) (Nat.le_of_ble_eq_true rfl) ?_
  intro p e s m args below meth c ls hC hr hlocks hB hl
  have hx := hC.1
  have hb := hC.2.1
  obtain ⟨hT, hR, hT8, hR6⟩ := id hI
  have hl : lv_has ls 3 [(0, .ref (b 5)), (1, .int (nI t))] := hl
  obtain ⟨w9, rfl⟩ : ∃ w, u = w + 1 := ⟨u - 1, by have := hU.1; omega⟩
  have hw9 := hU.2.1
  refine lv_iconst (v := 1) hx hb dX1_until_0 (by decide) ?_
  refine lv_istore_n (lv' := [(2, .int (1)), (0, .ref (b 5)), (1, .int (nI t))]) hx hb dX1_until_1 rfl hl (by decide) rfl (fun ls hl => ?_)
  refine loopU (P := fun i => ∀ ls : Array Slot, lv_has ls 3 [(2, .int (nI (i + 1))), (0, .ref (b 5)), (1, .int (nI t))] → W p l e ({ frames := 0, cells := 0, slots := 0, locals := 0 } : Room) s m args below meth c s.heap [] 0 0 (MQ below (k2_QcV (.int (nI (w9 + 1)))) args s 0 0 (fun _ => False)) (F0 m 2 ls [])) (w9) ?_ ?_ 0 (by omega) ls (by first | exact lv_sub hl [0, 1, 2] rfl | (simpa using lv_sub hl [0, 1, 2] rfl))
  · intro ls hl
    refine lv_aload_n hx hb dX1_until_2 rfl (lv_at hl 1 rfl) ?_
    refine gM_now hC hB dX1_until_3 ?_
    refine lv_iconst (v := 0) hx hb dX1_until_6 (by decide) ?_
    refine lM_now (0) hC hB rfl (by omega) rfl dX1_until_7 ?_
    refine lv_iload_n hx hb dX1_until_8 rfl (lv_at hl 0 rfl) ?_
    refine lv_iadd hx hb dX1_until_9 ?_
    refine lv_aload_n hx hb dX1_until_10 rfl (lv_at hl 1 rfl) ?_
    refine gM_period hC hB dX1_until_11 ?_
    refine lv_iload_n hx hb dX1_until_14 rfl (lv_at hl 2 rfl) ?_
    refine lM_period (t) hC hB rfl (by omega) rfl dX1_until_15 ?_
    refine lv_irem hx hb dX1_until_16 (hP t ht) ?_
    refine lv_aload_n hx hb dX1_until_17 rfl (lv_at hl 1 rfl) ?_
    refine gM_beat hC hB dX1_until_18 ?_
    refine lv_iload_n hx hb dX1_until_21 rfl (lv_at hl 2 rfl) ?_
    refine lM_beat (t) hC hB rfl (by omega) rfl dX1_until_22 ?_
    refine lv_icmp_eq (tgt := 32) hx hb dX1_until_23 (by decide) (fun c1 => ?_) (fun c1 => ?_)
    · refine lv_iload_n hx hb dX1_until_32 rfl (lv_at hl 0 rfl) ?_
      exact rd_i hC hr hlocks dX1_until_33 (by rfl)
    · exfalso; exact c1 hU.2.2.1
  · intro i hi ih ls hl
    refine lv_aload_n hx hb dX1_until_2 rfl (lv_at hl 1 rfl) ?_
    refine gM_now hC hB dX1_until_3 ?_
    refine lv_iconst (v := 0) hx hb dX1_until_6 (by decide) ?_
    refine lM_now (0) hC hB rfl (by omega) rfl dX1_until_7 ?_
    refine lv_iload_n hx hb dX1_until_8 rfl (lv_at hl 0 rfl) ?_
    refine lv_iadd hx hb dX1_until_9 ?_
    refine lv_aload_n hx hb dX1_until_10 rfl (lv_at hl 1 rfl) ?_
    refine gM_period hC hB dX1_until_11 ?_
    refine lv_iload_n hx hb dX1_until_14 rfl (lv_at hl 2 rfl) ?_
    refine lM_period (t) hC hB rfl (by omega) rfl dX1_until_15 ?_
    refine lv_irem hx hb dX1_until_16 (hP t ht) ?_
    refine lv_aload_n hx hb dX1_until_17 rfl (lv_at hl 1 rfl) ?_
    refine gM_beat hC hB dX1_until_18 ?_
    refine lv_iload_n hx hb dX1_until_21 rfl (lv_at hl 2 rfl) ?_
    refine lM_beat (t) hC hB rfl (by omega) rfl dX1_until_22 ?_
    refine lv_icmp_eq (tgt := 32) hx hb dX1_until_23 (by decide) (fun c2 => ?_) (fun c2 => ?_)
    · exfalso; exact hU.2.2.2 (i + 1) (by omega) (by omega) c2
    · refine lv_iinc (v := nI (i + 1 + 1)) (lv' := [(2, .int (nI (i + 1 + 1))), (0, .ref (b 5)), (1, .int (nI t))]) hx hb dX1_until_26 hl (k := 0) rfl (ninc (i + 1)) (by decide) rfl (fun ls hl => ?_)
      refine lv_goto (tgt := 2) hx hb dX1_until_29 (by decide) ?_
      exact ih ls (lv_sub hl [0, 1, 2] rfl)
set_option maxHeartbeats 4000000 in
set_option maxRecDepth 100000 in
theorem c_X1_open (l : Launch) (D : va_G) (cI : ClassId) (b : Nat → Nat) (N : bS) {T R : Nat} {t : Nat} (hI : MI N T R) (ht : t < T) : Rd l yX1_open cX1_open 4 (some .int) ({ frames := 1, cells := 0, slots := 0, locals := 21 } : Room) (MW D cI b N) [.ref (b 5), .int (nI t)] (.int (mOp N R t)) := by
  refine Rd.of (by decide) (Nat.le_of_ble_eq_true rfl) ?_
  intro p e s m args below meth c ls hC hr hlocks hB hl
  have hx := hC.1
  have hb := hC.2.1
  obtain ⟨hT, hR, hT8, hR6⟩ := id hI
  have hl : lv_has ls 4 [(0, .ref (b 5)), (1, .int (nI t))] := hl
  refine lv_iconst (v := 0) hx hb dX1_open_0 (by decide) ?_
  refine lv_istore_n (lv' := [(2, .int (0)), (0, .ref (b 5)), (1, .int (nI t))]) hx hb dX1_open_1 rfl hl (by decide) rfl (fun ls hl => ?_)
  refine lv_iconst (v := 0) hx hb dX1_open_2 (by decide) ?_
  refine lv_istore_n (lv' := [(3, .int (0)), (2, .int (0)), (0, .ref (b 5)), (1, .int (nI t))]) hx hb dX1_open_3 rfl hl (by decide) rfl (fun ls hl => ?_)
  refine loopU (P := fun i => ∀ ls : Array Slot, lv_has ls 4 [(3, .int (nI i)), (2, .int (mOp N i t)), (0, .ref (b 5)), (1, .int (nI t))] → W p l e ({ frames := 1, cells := 0, slots := 0, locals := 21 } : Room) s m args below meth c s.heap [] 0 0 (MQ below (k2_QcV (.int (mOp N R t))) args s 0 0 (fun _ => False)) (F0 m 4 ls [])) (R) ?_ ?_ 0 (by omega) ls (by first | exact lv_sub hl [0, 1, 2, 3] rfl | (simpa using lv_sub hl [0, 1, 2, 3] rfl))
  · intro ls hl
    refine lv_iload_n hx hb dX1_open_4 rfl (lv_at hl 0 rfl) ?_
    refine lv_aload_n hx hb dX1_open_5 rfl (lv_at hl 2 rfl) ?_
    refine gM_traders hC hB hR dX1_open_6 ?_
    refine jge (i := R) (j := R) (tgt := 31) hC dX1_open_9 (by decide) rfl rfl (by omega) (by omega) (fun c1 => ?_) (fun c1 => ?_)
    · refine lv_iload_n hx hb dX1_open_31 rfl (lv_at hl 1 rfl) ?_
      exact rd_i hC hr hlocks dX1_open_32 (by rfl)
    · exfalso; omega
  · intro i hi ih ls hl
    refine lv_iload_n hx hb dX1_open_4 rfl (lv_at hl 0 rfl) ?_
    refine lv_aload_n hx hb dX1_open_5 rfl (lv_at hl 2 rfl) ?_
    refine gM_traders hC hB hR dX1_open_6 ?_
    refine jge (i := i) (j := R) (tgt := 31) hC dX1_open_9 (by decide) rfl rfl (by omega) (by omega) (fun c2 => ?_) (fun c2 => ?_)
    · exfalso; omega
    · refine lv_iload_n hx hb dX1_open_12 rfl (lv_at hl 1 rfl) ?_
      refine lv_aload_n hx hb dX1_open_13 rfl (lv_at hl 2 rfl) ?_
      refine gM_now hC hB dX1_open_14 ?_
      refine lv_iload_n hx hb dX1_open_17 rfl (lv_at hl 0 rfl) ?_
      refine lv_iload_n hx hb dX1_open_18 rfl (lv_at hl 3 rfl) ?_
      refine k_X1_at hC (c_X1_at l (r := i) (t := t)) mov_T trivial rfl ⟨rfl, rfl⟩ ⟨Nat.le_of_ble_eq_true rfl, Nat.le_of_ble_eq_true rfl⟩ ⟨Nat.zero_le _, Nat.zero_le _⟩ hl.1 rfl (Nat.le_of_ble_eq_true rfl) dX1_open_19 ?_
      refine lM_now (23 + 8 * i + t) hC hB rfl (by omega) rfl dX1_open_22 ?_
      refine lv_iadd hx hb dX1_open_23 ?_
      refine lv_istore_n (lv' := [(2, .int ((mOp N i t) + (N 3 (23 + 8 * i + t)))), (3, .int (nI i)), (0, .ref (b 5)), (1, .int (nI t))]) hx hb dX1_open_24 rfl hl (by decide) rfl (fun ls hl => ?_)
      refine lv_iinc (v := nI (i + 1)) (lv' := [(3, .int (nI (i + 1))), (2, .int ((mOp N i t) + (N 3 (23 + 8 * i + t)))), (0, .ref (b 5)), (1, .int (nI t))]) hx hb dX1_open_25 hl (k := 1) rfl (ninc i) (by decide) rfl (fun ls hl => ?_)
      refine lv_goto (tgt := 4) hx hb dX1_open_28 (by decide) ?_
      exact ih ls (lv_sub hl [0, 1, 2, 3] rfl)
set_option maxHeartbeats 4000000 in
set_option maxRecDepth 100000 in
theorem c_X1_dear (l : Launch) (D : va_G) (cI : ClassId) (b : Nat → Nat) (N : bS) {T R : Nat} (hI : MI N T R) : Rd l yX1_dear cX1_dear 3 (some .int) ({ frames := 4, cells := 0, slots := 0, locals := 90 } : Room) (MW D cI b N) [.ref (b 5)] (.int (oI (mDe N T R))) := by
  refine Rd.of (by decide) (Nat.le_of_ble_eq_true rfl) ?_
  intro p e s m args below meth c ls hC hr hlocks hB hl
  have hx := hC.1
  have hb := hC.2.1
  obtain ⟨hT, hR, hT8, hR6⟩ := id hI
  have hl : lv_has ls 3 [(0, .ref (b 5))] := hl
  refine lv_iconst (v := -1) hx hb dX1_dear_0 (by decide) ?_
  refine lv_istore_n (lv' := [(1, .int (-1)), (0, .ref (b 5))]) hx hb dX1_dear_1 rfl hl (by decide) rfl (fun ls hl => ?_)
  refine lv_iconst (v := 0) hx hb dX1_dear_2 (by decide) ?_
  refine lv_istore_n (lv' := [(2, .int (0)), (1, .int (-1)), (0, .ref (b 5))]) hx hb dX1_dear_3 rfl hl (by decide) rfl (fun ls hl => ?_)
  refine loopU (P := fun i => ∀ ls : Array Slot, lv_has ls 3 [(2, .int (nI i)), (1, .int (oI (amx (mPr N R) i))), (0, .ref (b 5))] → W p l e ({ frames := 4, cells := 0, slots := 0, locals := 90 } : Room) s m args below meth c s.heap [] 0 0 (MQ below (k2_QcV (.int (oI (mDe N T R)))) args s 0 0 (fun _ => False)) (F0 m 4 ls [])) (T) ?_ ?_ 0 (by omega) ls (by first | exact lv_sub hl [0, 1, 2] rfl | (simpa using lv_sub hl [0, 1, 2] rfl))
  · intro ls hl
    refine lv_iload_n hx hb dX1_dear_4 rfl (lv_at hl 0 rfl) ?_
    refine lv_aload_n hx hb dX1_dear_5 rfl (lv_at hl 2 rfl) ?_
    refine gM_towers hC hB hT dX1_dear_6 ?_
    refine jge (i := T) (j := T) (tgt := 38) hC dX1_dear_9 (by decide) rfl rfl (by omega) (by omega) (fun c1 => ?_) (fun c1 => ?_)
    · refine lv_iload_n hx hb dX1_dear_38 rfl (lv_at hl 1 rfl) ?_
      exact rd_i hC hr hlocks dX1_dear_39 (by rfl)
    · exfalso; omega
  · intro i hi ih ls hl
    rcases hq : amx (mPr N R) i with _ | b9
    · rw [hq] at hl
      have hl : lv_has ls 3 [(2, .int (nI i)), (1, .int (-1)), (0, .ref (b 5))] := hl
      refine lv_iload_n hx hb dX1_dear_4 rfl (lv_at hl 0 rfl) ?_
      refine lv_aload_n hx hb dX1_dear_5 rfl (lv_at hl 2 rfl) ?_
      refine gM_towers hC hB hT dX1_dear_6 ?_
      refine jge (i := i) (j := T) (tgt := 38) hC dX1_dear_9 (by decide) rfl rfl (by omega) (by omega) (fun c2 => ?_) (fun c2 => ?_)
      · exfalso; omega
      · refine lv_iload_n hx hb dX1_dear_12 rfl (lv_at hl 1 rfl) ?_
        refine lv_iconst (v := -1) hx hb dX1_dear_13 (by decide) ?_
        refine lv_icmp_eq (tgt := 30) hx hb dX1_dear_14 (by decide) (fun c3 => ?_) (fun c3 => ?_)
        · refine lv_iload_n hx hb dX1_dear_30 rfl (lv_at hl 0 rfl) ?_
          refine lv_istore_n (lv' := [(1, .int (nI i)), (2, .int (nI i)), (0, .ref (b 5))]) hx hb dX1_dear_31 rfl hl (by decide) rfl (fun ls hl => ?_)
          refine lv_iinc (v := nI (i + 1)) (lv' := [(2, .int (nI (i + 1))), (1, .int (nI i)), (0, .ref (b 5))]) hx hb dX1_dear_32 hl (k := 1) rfl (ninc i) (by decide) rfl (fun ls hl => ?_)
          refine lv_goto (tgt := 4) hx hb dX1_dear_35 (by decide) ?_
          have e4 : oI (amx (mPr N R) (i + 1)) = nI i := by rw [amx_none hq] <;> rfl
          exact ih ls (by rw [e4]; exact lv_sub hl [0, 1, 2] rfl)
        · exfalso; revert c3; decide
    · rw [hq] at hl
      have hl : lv_has ls 3 [(2, .int (nI i)), (1, .int (nI b9)), (0, .ref (b 5))] := hl
      have hb9 := amx_lt i hq
      refine lv_iload_n hx hb dX1_dear_4 rfl (lv_at hl 0 rfl) ?_
      refine lv_aload_n hx hb dX1_dear_5 rfl (lv_at hl 2 rfl) ?_
      refine gM_towers hC hB hT dX1_dear_6 ?_
      refine jge (i := i) (j := T) (tgt := 38) hC dX1_dear_9 (by decide) rfl rfl (by omega) (by omega) (fun c5 => ?_) (fun c5 => ?_)
      · exfalso; omega
      · refine lv_iload_n hx hb dX1_dear_12 rfl (lv_at hl 1 rfl) ?_
        refine lv_iconst (v := -1) hx hb dX1_dear_13 (by decide) ?_
        refine lv_icmp_eq (tgt := 30) hx hb dX1_dear_14 (by decide) (fun c6 => ?_) (fun c6 => ?_)
        · exfalso; exact nI_m1 (by omega) c6
        · refine lv_aload_n hx hb dX1_dear_17 rfl (lv_at hl 2 rfl) ?_
          refine lv_iload_n hx hb dX1_dear_18 rfl (lv_at hl 0 rfl) ?_
          refine k_X1_price hC (c_X1_price l D cI b N (t := i) (hI) (by omega)) hB rfl ⟨rfl, rfl⟩ ⟨Nat.le_of_ble_eq_true rfl, Nat.le_of_ble_eq_true rfl⟩ ⟨Nat.zero_le _, Nat.zero_le _⟩ hl.1 rfl (Nat.le_of_ble_eq_true rfl) dX1_dear_19 ?_
          refine lv_aload_n hx hb dX1_dear_22 rfl (lv_at hl 2 rfl) ?_
          refine lv_iload_n hx hb dX1_dear_23 rfl (lv_at hl 1 rfl) ?_
          refine k_X1_price hC (c_X1_price l D cI b N (t := b9) (hI) (by omega)) hB rfl ⟨rfl, rfl⟩ ⟨Nat.le_of_ble_eq_true rfl, Nat.le_of_ble_eq_true rfl⟩ ⟨Nat.zero_le _, Nat.zero_le _⟩ hl.1 rfl (Nat.le_of_ble_eq_true rfl) dX1_dear_24 ?_
          refine lv_icmp_le (tgt := 32) hx hb dX1_dear_27 (by decide) (fun c7 => ?_) (fun c7 => ?_)
          · refine lv_iinc (v := nI (i + 1)) (lv' := [(2, .int (nI (i + 1))), (1, .int (nI b9)), (0, .ref (b 5))]) hx hb dX1_dear_32 hl (k := 0) rfl (ninc i) (by decide) rfl (fun ls hl => ?_)
            refine lv_goto (tgt := 4) hx hb dX1_dear_35 (by decide) ?_
            have e8 : oI (amx (mPr N R) (i + 1)) = nI b9 := by rw [amx_keep hq c7] <;> rfl
            exact ih ls (by rw [e8]; exact lv_sub hl [0, 1, 2] rfl)
          · refine lv_iload_n hx hb dX1_dear_30 rfl (lv_at hl 0 rfl) ?_
            refine lv_istore_n (lv' := [(1, .int (nI i)), (2, .int (nI i)), (0, .ref (b 5))]) hx hb dX1_dear_31 rfl hl (by decide) rfl (fun ls hl => ?_)
            refine lv_iinc (v := nI (i + 1)) (lv' := [(2, .int (nI (i + 1))), (1, .int (nI i)), (0, .ref (b 5))]) hx hb dX1_dear_32 hl (k := 1) rfl (ninc i) (by decide) rfl (fun ls hl => ?_)
            refine lv_goto (tgt := 4) hx hb dX1_dear_35 (by decide) ?_
            have e9 : oI (amx (mPr N R) (i + 1)) = nI i := by rw [amx_new hq c7] <;> rfl
            exact ih ls (by rw [e9]; exact lv_sub hl [0, 1, 2] rfl)
set_option maxHeartbeats 4000000 in
set_option maxRecDepth 100000 in
theorem c_X1_next (l : Launch) (D : va_G) (cI : ClassId) (b : Nat → Nat) (N : bS) {T R : Nat} {u : Nat → Nat} (hI : MI N T R) (hU : ∀ t, t < T → mU N t (u t)) (hP : mP N T) : Rd l yX1_next cX1_next 3 (some .int) ({ frames := 1, cells := 0, slots := 0, locals := 22 } : Room) (MW D cI b N) [.ref (b 5)] (.int (oI (amN u T))) := by
  refine Rd.of (by decide) (Nat.le_of_ble_eq_true rfl) ?_
  intro p e s m args below meth c ls hC hr hlocks hB hl
  have hx := hC.1
  have hb := hC.2.1
  obtain ⟨hT, hR, hT8, hR6⟩ := id hI
  have hl : lv_has ls 3 [(0, .ref (b 5))] := hl
  refine lv_iconst (v := -1) hx hb dX1_next_0 (by decide) ?_
  refine lv_istore_n (lv' := [(1, .int (-1)), (0, .ref (b 5))]) hx hb dX1_next_1 rfl hl (by decide) rfl (fun ls hl => ?_)
  refine lv_iconst (v := 0) hx hb dX1_next_2 (by decide) ?_
  refine lv_istore_n (lv' := [(2, .int (0)), (1, .int (-1)), (0, .ref (b 5))]) hx hb dX1_next_3 rfl hl (by decide) rfl (fun ls hl => ?_)
  refine loopU (P := fun i => ∀ ls : Array Slot, lv_has ls 3 [(2, .int (nI i)), (1, .int (oI (amN u i))), (0, .ref (b 5))] → W p l e ({ frames := 1, cells := 0, slots := 0, locals := 22 } : Room) s m args below meth c s.heap [] 0 0 (MQ below (k2_QcV (.int (oI (amN u T)))) args s 0 0 (fun _ => False)) (F0 m 4 ls [])) (T) ?_ ?_ 0 (by omega) ls (by first | exact lv_sub hl [0, 1, 2] rfl | (simpa using lv_sub hl [0, 1, 2] rfl))
  · intro ls hl
    refine lv_iload_n hx hb dX1_next_4 rfl (lv_at hl 0 rfl) ?_
    refine lv_aload_n hx hb dX1_next_5 rfl (lv_at hl 2 rfl) ?_
    refine gM_towers hC hB hT dX1_next_6 ?_
    refine jge (i := T) (j := T) (tgt := 38) hC dX1_next_9 (by decide) rfl rfl (by omega) (by omega) (fun c1 => ?_) (fun c1 => ?_)
    · refine lv_iload_n hx hb dX1_next_38 rfl (lv_at hl 1 rfl) ?_
      exact rd_i hC hr hlocks dX1_next_39 (by rfl)
    · exfalso; omega
  · intro i hi ih ls hl
    rcases hq : amN u i with _ | b9
    · rw [hq] at hl
      have hl : lv_has ls 3 [(2, .int (nI i)), (1, .int (-1)), (0, .ref (b 5))] := hl
      refine lv_iload_n hx hb dX1_next_4 rfl (lv_at hl 0 rfl) ?_
      refine lv_aload_n hx hb dX1_next_5 rfl (lv_at hl 2 rfl) ?_
      refine gM_towers hC hB hT dX1_next_6 ?_
      refine jge (i := i) (j := T) (tgt := 38) hC dX1_next_9 (by decide) rfl rfl (by omega) (by omega) (fun c2 => ?_) (fun c2 => ?_)
      · exfalso; omega
      · refine lv_iload_n hx hb dX1_next_12 rfl (lv_at hl 1 rfl) ?_
        refine lv_iconst (v := -1) hx hb dX1_next_13 (by decide) ?_
        refine lv_icmp_eq (tgt := 30) hx hb dX1_next_14 (by decide) (fun c3 => ?_) (fun c3 => ?_)
        · refine lv_iload_n hx hb dX1_next_30 rfl (lv_at hl 0 rfl) ?_
          refine lv_istore_n (lv' := [(1, .int (nI i)), (2, .int (nI i)), (0, .ref (b 5))]) hx hb dX1_next_31 rfl hl (by decide) rfl (fun ls hl => ?_)
          refine lv_iinc (v := nI (i + 1)) (lv' := [(2, .int (nI (i + 1))), (1, .int (nI i)), (0, .ref (b 5))]) hx hb dX1_next_32 hl (k := 1) rfl (ninc i) (by decide) rfl (fun ls hl => ?_)
          refine lv_goto (tgt := 4) hx hb dX1_next_35 (by decide) ?_
          have e4 : oI (amN u (i + 1)) = nI i := by rw [amN_none hq] <;> rfl
          exact ih ls (by rw [e4]; exact lv_sub hl [0, 1, 2] rfl)
        · exfalso; revert c3; decide
    · rw [hq] at hl
      have hl : lv_has ls 3 [(2, .int (nI i)), (1, .int (nI b9)), (0, .ref (b 5))] := hl
      have hb9 := amN_lt i hq
      have hu8 := (hU i hi).2.1
      have hu9 := (hU b9 (by omega)).2.1
      refine lv_iload_n hx hb dX1_next_4 rfl (lv_at hl 0 rfl) ?_
      refine lv_aload_n hx hb dX1_next_5 rfl (lv_at hl 2 rfl) ?_
      refine gM_towers hC hB hT dX1_next_6 ?_
      refine jge (i := i) (j := T) (tgt := 38) hC dX1_next_9 (by decide) rfl rfl (by omega) (by omega) (fun c5 => ?_) (fun c5 => ?_)
      · exfalso; omega
      · refine lv_iload_n hx hb dX1_next_12 rfl (lv_at hl 1 rfl) ?_
        refine lv_iconst (v := -1) hx hb dX1_next_13 (by decide) ?_
        refine lv_icmp_eq (tgt := 30) hx hb dX1_next_14 (by decide) (fun c6 => ?_) (fun c6 => ?_)
        · exfalso; exact nI_m1 (by omega) c6
        · refine lv_aload_n hx hb dX1_next_17 rfl (lv_at hl 2 rfl) ?_
          refine lv_iload_n hx hb dX1_next_18 rfl (lv_at hl 0 rfl) ?_
          refine k_X1_until hC (c_X1_until l D cI b N (t := i) (hI) (by omega) ((hU) _ (by omega)) (hP)) hB rfl ⟨rfl, rfl⟩ ⟨Nat.le_of_ble_eq_true rfl, Nat.le_of_ble_eq_true rfl⟩ ⟨Nat.zero_le _, Nat.zero_le _⟩ hl.1 rfl (Nat.le_of_ble_eq_true rfl) dX1_next_19 ?_
          refine lv_aload_n hx hb dX1_next_22 rfl (lv_at hl 2 rfl) ?_
          refine lv_iload_n hx hb dX1_next_23 rfl (lv_at hl 1 rfl) ?_
          refine k_X1_until hC (c_X1_until l D cI b N (t := b9) (hI) (by omega) ((hU) _ (by omega)) (hP)) hB rfl ⟨rfl, rfl⟩ ⟨Nat.le_of_ble_eq_true rfl, Nat.le_of_ble_eq_true rfl⟩ ⟨Nat.zero_le _, Nat.zero_le _⟩ hl.1 rfl (Nat.le_of_ble_eq_true rfl) dX1_next_24 ?_
          refine jge (i := u i) (j := u b9) (tgt := 32) hC dX1_next_27 (by decide) rfl rfl (by omega) (by omega) (fun c7 => ?_) (fun c7 => ?_)
          · refine lv_iinc (v := nI (i + 1)) (lv' := [(2, .int (nI (i + 1))), (1, .int (nI b9)), (0, .ref (b 5))]) hx hb dX1_next_32 hl (k := 0) rfl (ninc i) (by decide) rfl (fun ls hl => ?_)
            refine lv_goto (tgt := 4) hx hb dX1_next_35 (by decide) ?_
            have e8 : oI (amN u (i + 1)) = nI b9 := by rw [amN_keep hq c7] <;> rfl
            exact ih ls (by rw [e8]; exact lv_sub hl [0, 1, 2] rfl)
          · refine lv_iload_n hx hb dX1_next_30 rfl (lv_at hl 0 rfl) ?_
            refine lv_istore_n (lv' := [(1, .int (nI i)), (2, .int (nI i)), (0, .ref (b 5))]) hx hb dX1_next_31 rfl hl (by decide) rfl (fun ls hl => ?_)
            refine lv_iinc (v := nI (i + 1)) (lv' := [(2, .int (nI (i + 1))), (1, .int (nI i)), (0, .ref (b 5))]) hx hb dX1_next_32 hl (k := 1) rfl (ninc i) (by decide) rfl (fun ls hl => ?_)
            refine lv_goto (tgt := 4) hx hb dX1_next_35 (by decide) ?_
            have e9 : oI (amN u (i + 1)) = nI i := by rw [amN_new hq c7] <;> rfl
            exact ih ls (by rw [e9]; exact lv_sub hl [0, 1, 2] rfl)
set_option maxHeartbeats 4000000 in
set_option maxRecDepth 100000 in
theorem c_X1_worth (l : Launch) (D : va_G) (cI : ClassId) (b : Nat → Nat) (N : bS) {T R : Nat} {r : Nat} (hI : MI N T R) (hr9 : r < R) : Rd l yX1_worth cX1_worth 4 (some .int) ({ frames := 4, cells := 0, slots := 0, locals := 90 } : Room) (MW D cI b N) [.ref (b 5), .int (nI r)] (.int (mWo N T R r)) := by
  refine Rd.of (by decide) (Nat.le_of_ble_eq_true rfl) ?_
  intro p e s m args below meth c ls hC hr hlocks hB hl
  have hx := hC.1
  have hb := hC.2.1
  obtain ⟨hT, hR, hT8, hR6⟩ := id hI
  have hl : lv_has ls 4 [(0, .ref (b 5)), (1, .int (nI r))] := hl
  refine lv_aload_n hx hb dX1_worth_0 rfl (lv_at hl 0 rfl) ?_
  refine gM_now hC hB dX1_worth_1 ?_
  refine lv_bipush (v := 17) hx hb dX1_worth_4 (by decide) ?_
  refine lv_iload_n hx hb dX1_worth_6 rfl (lv_at hl 1 rfl) ?_
  refine xadd (v := nI (17 + r)) hC dX1_worth_7 (nadd (i := 17) (j := r) rfl rfl) ?_
  refine lM_now (17 + r) hC hB rfl (by omega) rfl dX1_worth_8 ?_
  refine lv_istore_n (lv' := [(2, .int (N 3 (17 + r))), (0, .ref (b 5)), (1, .int (nI r))]) hx hb dX1_worth_9 rfl hl (by decide) rfl (fun ls hl => ?_)
  refine lv_iconst (v := 0) hx hb dX1_worth_10 (by decide) ?_
  refine lv_istore_n (lv' := [(3, .int (0)), (2, .int (N 3 (17 + r))), (0, .ref (b 5)), (1, .int (nI r))]) hx hb dX1_worth_11 rfl hl (by decide) rfl (fun ls hl => ?_)
  refine loopU (P := fun i => ∀ ls : Array Slot, lv_has ls 4 [(3, .int (nI i)), (2, .int (mWo N i R r)), (0, .ref (b 5)), (1, .int (nI r))] → W p l e ({ frames := 4, cells := 0, slots := 0, locals := 90 } : Room) s m args below meth c s.heap [] 0 0 (MQ below (k2_QcV (.int (mWo N T R r))) args s 0 0 (fun _ => False)) (F0 m 12 ls [])) (T) ?_ ?_ 0 (by omega) ls (by first | exact lv_sub hl [0, 1, 2, 3] rfl | (simpa using lv_sub hl [0, 1, 2, 3] rfl))
  · intro ls hl
    refine lv_iload_n hx hb dX1_worth_12 rfl (lv_at hl 0 rfl) ?_
    refine lv_aload_n hx hb dX1_worth_13 rfl (lv_at hl 2 rfl) ?_
    refine gM_towers hC hB hT dX1_worth_14 ?_
    refine jge (i := T) (j := T) (tgt := 45) hC dX1_worth_17 (by decide) rfl rfl (by omega) (by omega) (fun c1 => ?_) (fun c1 => ?_)
    · refine lv_iload_n hx hb dX1_worth_45 rfl (lv_at hl 1 rfl) ?_
      exact rd_i hC hr hlocks dX1_worth_46 (by rfl)
    · exfalso; omega
  · intro i hi ih ls hl
    refine lv_iload_n hx hb dX1_worth_12 rfl (lv_at hl 0 rfl) ?_
    refine lv_aload_n hx hb dX1_worth_13 rfl (lv_at hl 2 rfl) ?_
    refine gM_towers hC hB hT dX1_worth_14 ?_
    refine jge (i := i) (j := T) (tgt := 45) hC dX1_worth_17 (by decide) rfl rfl (by omega) (by omega) (fun c2 => ?_) (fun c2 => ?_)
    · exfalso; omega
    · refine lv_iload_n hx hb dX1_worth_20 rfl (lv_at hl 1 rfl) ?_
      refine lv_aload_n hx hb dX1_worth_21 rfl (lv_at hl 2 rfl) ?_
      refine lv_iload_n hx hb dX1_worth_22 rfl (lv_at hl 0 rfl) ?_
      refine k_X1_price hC (c_X1_price l D cI b N (t := i) (hI) (by omega)) hB rfl ⟨rfl, rfl⟩ ⟨Nat.le_of_ble_eq_true rfl, Nat.le_of_ble_eq_true rfl⟩ ⟨Nat.zero_le _, Nat.zero_le _⟩ hl.1 rfl (Nat.le_of_ble_eq_true rfl) dX1_worth_23 ?_
      refine lv_aload_n hx hb dX1_worth_26 rfl (lv_at hl 2 rfl) ?_
      refine gM_now hC hB dX1_worth_27 ?_
      refine lv_iload_n hx hb dX1_worth_30 rfl (lv_at hl 3 rfl) ?_
      refine lv_iload_n hx hb dX1_worth_31 rfl (lv_at hl 0 rfl) ?_
      refine k_X1_at hC (c_X1_at l (r := r) (t := i)) mov_T trivial rfl ⟨rfl, rfl⟩ ⟨Nat.le_of_ble_eq_true rfl, Nat.le_of_ble_eq_true rfl⟩ ⟨Nat.zero_le _, Nat.zero_le _⟩ hl.1 rfl (Nat.le_of_ble_eq_true rfl) dX1_worth_32 ?_
      refine lM_now (23 + 8 * r + i) hC hB rfl (by omega) rfl dX1_worth_35 ?_
      refine lv_imul hx hb dX1_worth_36 ?_
      refine lv_iadd hx hb dX1_worth_37 ?_
      refine lv_istore_n (lv' := [(2, .int ((mWo N i R r) + ((mPr N R i) * (N 3 (23 + 8 * r + i))))), (3, .int (nI i)), (0, .ref (b 5)), (1, .int (nI r))]) hx hb dX1_worth_38 rfl hl (by decide) rfl (fun ls hl => ?_)
      refine lv_iinc (v := nI (i + 1)) (lv' := [(3, .int (nI (i + 1))), (2, .int ((mWo N i R r) + ((mPr N R i) * (N 3 (23 + 8 * r + i))))), (0, .ref (b 5)), (1, .int (nI r))]) hx hb dX1_worth_39 hl (k := 1) rfl (ninc i) (by decide) rfl (fun ls hl => ?_)
      refine lv_goto (tgt := 12) hx hb dX1_worth_42 (by decide) ?_
      exact ih ls (lv_sub hl [0, 1, 2, 3] rfl)
set_option maxHeartbeats 4000000 in
set_option maxRecDepth 100000 in
theorem c_X1_rich (l : Launch) (D : va_G) (cI : ClassId) (b : Nat → Nat) (N : bS) {T R : Nat} (hI : MI N T R) : Rd l yX1_rich cX1_rich 3 (some .int) ({ frames := 5, cells := 0, slots := 0, locals := 113 } : Room) (MW D cI b N) [.ref (b 5)] (.int (oI (mRi N T R))) := by
  refine Rd.of (by decide) (Nat.le_of_ble_eq_true rfl) ?_
  intro p e s m args below meth c ls hC hr hlocks hB hl
  have hx := hC.1
  have hb := hC.2.1
  obtain ⟨hT, hR, hT8, hR6⟩ := id hI
  have hl : lv_has ls 3 [(0, .ref (b 5))] := hl
  refine lv_iconst (v := -1) hx hb dX1_rich_0 (by decide) ?_
  refine lv_istore_n (lv' := [(1, .int (-1)), (0, .ref (b 5))]) hx hb dX1_rich_1 rfl hl (by decide) rfl (fun ls hl => ?_)
  refine lv_iconst (v := 0) hx hb dX1_rich_2 (by decide) ?_
  refine lv_istore_n (lv' := [(2, .int (0)), (1, .int (-1)), (0, .ref (b 5))]) hx hb dX1_rich_3 rfl hl (by decide) rfl (fun ls hl => ?_)
  refine loopU (P := fun i => ∀ ls : Array Slot, lv_has ls 3 [(2, .int (nI i)), (1, .int (oI (amx (mWo N T R) i))), (0, .ref (b 5))] → W p l e ({ frames := 5, cells := 0, slots := 0, locals := 113 } : Room) s m args below meth c s.heap [] 0 0 (MQ below (k2_QcV (.int (oI (mRi N T R)))) args s 0 0 (fun _ => False)) (F0 m 4 ls [])) (R) ?_ ?_ 0 (by omega) ls (by first | exact lv_sub hl [0, 1, 2] rfl | (simpa using lv_sub hl [0, 1, 2] rfl))
  · intro ls hl
    refine lv_iload_n hx hb dX1_rich_4 rfl (lv_at hl 0 rfl) ?_
    refine lv_aload_n hx hb dX1_rich_5 rfl (lv_at hl 2 rfl) ?_
    refine gM_traders hC hB hR dX1_rich_6 ?_
    refine jge (i := R) (j := R) (tgt := 38) hC dX1_rich_9 (by decide) rfl rfl (by omega) (by omega) (fun c1 => ?_) (fun c1 => ?_)
    · refine lv_iload_n hx hb dX1_rich_38 rfl (lv_at hl 1 rfl) ?_
      exact rd_i hC hr hlocks dX1_rich_39 (by rfl)
    · exfalso; omega
  · intro i hi ih ls hl
    rcases hq : amx (mWo N T R) i with _ | b9
    · rw [hq] at hl
      have hl : lv_has ls 3 [(2, .int (nI i)), (1, .int (-1)), (0, .ref (b 5))] := hl
      refine lv_iload_n hx hb dX1_rich_4 rfl (lv_at hl 0 rfl) ?_
      refine lv_aload_n hx hb dX1_rich_5 rfl (lv_at hl 2 rfl) ?_
      refine gM_traders hC hB hR dX1_rich_6 ?_
      refine jge (i := i) (j := R) (tgt := 38) hC dX1_rich_9 (by decide) rfl rfl (by omega) (by omega) (fun c2 => ?_) (fun c2 => ?_)
      · exfalso; omega
      · refine lv_iload_n hx hb dX1_rich_12 rfl (lv_at hl 1 rfl) ?_
        refine lv_iconst (v := -1) hx hb dX1_rich_13 (by decide) ?_
        refine lv_icmp_eq (tgt := 30) hx hb dX1_rich_14 (by decide) (fun c3 => ?_) (fun c3 => ?_)
        · refine lv_iload_n hx hb dX1_rich_30 rfl (lv_at hl 0 rfl) ?_
          refine lv_istore_n (lv' := [(1, .int (nI i)), (2, .int (nI i)), (0, .ref (b 5))]) hx hb dX1_rich_31 rfl hl (by decide) rfl (fun ls hl => ?_)
          refine lv_iinc (v := nI (i + 1)) (lv' := [(2, .int (nI (i + 1))), (1, .int (nI i)), (0, .ref (b 5))]) hx hb dX1_rich_32 hl (k := 1) rfl (ninc i) (by decide) rfl (fun ls hl => ?_)
          refine lv_goto (tgt := 4) hx hb dX1_rich_35 (by decide) ?_
          have e4 : oI (amx (mWo N T R) (i + 1)) = nI i := by rw [amx_none hq] <;> rfl
          exact ih ls (by rw [e4]; exact lv_sub hl [0, 1, 2] rfl)
        · exfalso; revert c3; decide
    · rw [hq] at hl
      have hl : lv_has ls 3 [(2, .int (nI i)), (1, .int (nI b9)), (0, .ref (b 5))] := hl
      have hb9 := amx_lt i hq
      refine lv_iload_n hx hb dX1_rich_4 rfl (lv_at hl 0 rfl) ?_
      refine lv_aload_n hx hb dX1_rich_5 rfl (lv_at hl 2 rfl) ?_
      refine gM_traders hC hB hR dX1_rich_6 ?_
      refine jge (i := i) (j := R) (tgt := 38) hC dX1_rich_9 (by decide) rfl rfl (by omega) (by omega) (fun c5 => ?_) (fun c5 => ?_)
      · exfalso; omega
      · refine lv_iload_n hx hb dX1_rich_12 rfl (lv_at hl 1 rfl) ?_
        refine lv_iconst (v := -1) hx hb dX1_rich_13 (by decide) ?_
        refine lv_icmp_eq (tgt := 30) hx hb dX1_rich_14 (by decide) (fun c6 => ?_) (fun c6 => ?_)
        · exfalso; exact nI_m1 (by omega) c6
        · refine lv_aload_n hx hb dX1_rich_17 rfl (lv_at hl 2 rfl) ?_
          refine lv_iload_n hx hb dX1_rich_18 rfl (lv_at hl 0 rfl) ?_
          refine k_X1_worth hC (c_X1_worth l D cI b N (r := i) (hI) (by omega)) hB rfl ⟨rfl, rfl⟩ ⟨Nat.le_of_ble_eq_true rfl, Nat.le_of_ble_eq_true rfl⟩ ⟨Nat.zero_le _, Nat.zero_le _⟩ hl.1 rfl (Nat.le_of_ble_eq_true rfl) dX1_rich_19 ?_
          refine lv_aload_n hx hb dX1_rich_22 rfl (lv_at hl 2 rfl) ?_
          refine lv_iload_n hx hb dX1_rich_23 rfl (lv_at hl 1 rfl) ?_
          refine k_X1_worth hC (c_X1_worth l D cI b N (r := b9) (hI) (by omega)) hB rfl ⟨rfl, rfl⟩ ⟨Nat.le_of_ble_eq_true rfl, Nat.le_of_ble_eq_true rfl⟩ ⟨Nat.zero_le _, Nat.zero_le _⟩ hl.1 rfl (Nat.le_of_ble_eq_true rfl) dX1_rich_24 ?_
          refine lv_icmp_le (tgt := 32) hx hb dX1_rich_27 (by decide) (fun c7 => ?_) (fun c7 => ?_)
          · refine lv_iinc (v := nI (i + 1)) (lv' := [(2, .int (nI (i + 1))), (1, .int (nI b9)), (0, .ref (b 5))]) hx hb dX1_rich_32 hl (k := 0) rfl (ninc i) (by decide) rfl (fun ls hl => ?_)
            refine lv_goto (tgt := 4) hx hb dX1_rich_35 (by decide) ?_
            have e8 : oI (amx (mWo N T R) (i + 1)) = nI b9 := by rw [amx_keep hq c7] <;> rfl
            exact ih ls (by rw [e8]; exact lv_sub hl [0, 1, 2] rfl)
          · refine lv_iload_n hx hb dX1_rich_30 rfl (lv_at hl 0 rfl) ?_
            refine lv_istore_n (lv' := [(1, .int (nI i)), (2, .int (nI i)), (0, .ref (b 5))]) hx hb dX1_rich_31 rfl hl (by decide) rfl (fun ls hl => ?_)
            refine lv_iinc (v := nI (i + 1)) (lv' := [(2, .int (nI (i + 1))), (1, .int (nI i)), (0, .ref (b 5))]) hx hb dX1_rich_32 hl (k := 1) rfl (ninc i) (by decide) rfl (fun ls hl => ?_)
            refine lv_goto (tgt := 4) hx hb dX1_rich_35 (by decide) ?_
            have e9 : oI (amx (mWo N T R) (i + 1)) = nI i := by rw [amx_new hq c7] <;> rfl
            exact ih ls (by rw [e9]; exact lv_sub hl [0, 1, 2] rfl)
set_option maxHeartbeats 4000000 in
set_option maxRecDepth 100000 in
theorem c_X1_shorts (l : Launch) (D : va_G) (cI : ClassId) (b : Nat → Nat) (N : bS) {T R : Nat} {r : Nat} (hI : MI N T R) (hr9 : r < R) : Rd l yX1_shorts cX1_shorts 4 (some .int) ({ frames := 1, cells := 0, slots := 0, locals := 21 } : Room) (MW D cI b N) [.ref (b 5), .int (nI r)] (.int (mSh N T r)) := by
  refine Rd.of (by decide) (Nat.le_of_ble_eq_true rfl) ?_
  intro p e s m args below meth c ls hC hr hlocks hB hl
  have hx := hC.1
  have hb := hC.2.1
  obtain ⟨hT, hR, hT8, hR6⟩ := id hI
  have hl : lv_has ls 4 [(0, .ref (b 5)), (1, .int (nI r))] := hl
  refine lv_iconst (v := 0) hx hb dX1_shorts_0 (by decide) ?_
  refine lv_istore_n (lv' := [(2, .int (0)), (0, .ref (b 5)), (1, .int (nI r))]) hx hb dX1_shorts_1 rfl hl (by decide) rfl (fun ls hl => ?_)
  refine lv_iconst (v := 0) hx hb dX1_shorts_2 (by decide) ?_
  refine lv_istore_n (lv' := [(3, .int (0)), (2, .int (0)), (0, .ref (b 5)), (1, .int (nI r))]) hx hb dX1_shorts_3 rfl hl (by decide) rfl (fun ls hl => ?_)
  refine loopU (P := fun i => ∀ ls : Array Slot, lv_has ls 4 [(3, .int (nI i)), (2, .int (mSh N i r)), (0, .ref (b 5)), (1, .int (nI r))] → W p l e ({ frames := 1, cells := 0, slots := 0, locals := 21 } : Room) s m args below meth c s.heap [] 0 0 (MQ below (k2_QcV (.int (mSh N T r))) args s 0 0 (fun _ => False)) (F0 m 4 ls [])) (T) ?_ ?_ 0 (by omega) ls (by first | exact lv_sub hl [0, 1, 2, 3] rfl | (simpa using lv_sub hl [0, 1, 2, 3] rfl))
  · intro ls hl
    refine lv_iload_n hx hb dX1_shorts_4 rfl (lv_at hl 0 rfl) ?_
    refine lv_aload_n hx hb dX1_shorts_5 rfl (lv_at hl 2 rfl) ?_
    refine gM_towers hC hB hT dX1_shorts_6 ?_
    refine jge (i := T) (j := T) (tgt := 39) hC dX1_shorts_9 (by decide) rfl rfl (by omega) (by omega) (fun c1 => ?_) (fun c1 => ?_)
    · refine lv_iload_n hx hb dX1_shorts_39 rfl (lv_at hl 1 rfl) ?_
      exact rd_i hC hr hlocks dX1_shorts_40 (by rfl)
    · exfalso; omega
  · intro i hi ih ls hl
    refine lv_iload_n hx hb dX1_shorts_4 rfl (lv_at hl 0 rfl) ?_
    refine lv_aload_n hx hb dX1_shorts_5 rfl (lv_at hl 2 rfl) ?_
    refine gM_towers hC hB hT dX1_shorts_6 ?_
    refine jge (i := i) (j := T) (tgt := 39) hC dX1_shorts_9 (by decide) rfl rfl (by omega) (by omega) (fun c2 => ?_) (fun c2 => ?_)
    · exfalso; omega
    · refine lv_iload_n hx hb dX1_shorts_12 rfl (lv_at hl 1 rfl) ?_
      refine lv_aload_n hx hb dX1_shorts_13 rfl (lv_at hl 2 rfl) ?_
      refine gM_now hC hB dX1_shorts_14 ?_
      refine lv_iload_n hx hb dX1_shorts_17 rfl (lv_at hl 3 rfl) ?_
      refine lv_iload_n hx hb dX1_shorts_18 rfl (lv_at hl 0 rfl) ?_
      refine k_X1_at hC (c_X1_at l (r := r) (t := i)) mov_T trivial rfl ⟨rfl, rfl⟩ ⟨Nat.le_of_ble_eq_true rfl, Nat.le_of_ble_eq_true rfl⟩ ⟨Nat.zero_le _, Nat.zero_le _⟩ hl.1 rfl (Nat.le_of_ble_eq_true rfl) dX1_shorts_19 ?_
      refine lM_now (23 + 8 * r + i) hC hB rfl (by omega) rfl dX1_shorts_22 ?_
      refine lv_if_ge (tgt := 30) hx hb dX1_shorts_23 (by decide) (fun c3 => ?_) (fun c3 => ?_)
      · refine lv_iconst (v := 0) hx hb dX1_shorts_30 (by decide) ?_
        refine lv_iadd hx hb dX1_shorts_31 ?_
        refine lv_istore_n (lv' := [(2, .int ((mSh N i r) + 0)), (3, .int (nI i)), (0, .ref (b 5)), (1, .int (nI r))]) hx hb dX1_shorts_32 rfl hl (by decide) rfl (fun ls hl => ?_)
        refine lv_iinc (v := nI (i + 1)) (lv' := [(3, .int (nI (i + 1))), (2, .int ((mSh N i r) + 0)), (0, .ref (b 5)), (1, .int (nI r))]) hx hb dX1_shorts_33 hl (k := 1) rfl (ninc i) (by decide) rfl (fun ls hl => ?_)
        refine lv_goto (tgt := 4) hx hb dX1_shorts_36 (by decide) ?_
        have e4 : mSh N (i + 1) r = (mSh N i r) + 0 := by show _ + (if _ then _ else _) = _; rw [if_pos c3] <;> rfl
        exact ih ls (by rw [e4]; exact lv_sub hl [0, 1, 2, 3] rfl)
      · refine lv_iconst (v := 1) hx hb dX1_shorts_26 (by decide) ?_
        refine lv_goto (tgt := 31) hx hb dX1_shorts_27 (by decide) ?_
        refine lv_iadd hx hb dX1_shorts_31 ?_
        refine lv_istore_n (lv' := [(2, .int ((mSh N i r) + 1)), (3, .int (nI i)), (0, .ref (b 5)), (1, .int (nI r))]) hx hb dX1_shorts_32 rfl hl (by decide) rfl (fun ls hl => ?_)
        refine lv_iinc (v := nI (i + 1)) (lv' := [(3, .int (nI (i + 1))), (2, .int ((mSh N i r) + 1)), (0, .ref (b 5)), (1, .int (nI r))]) hx hb dX1_shorts_33 hl (k := 1) rfl (ninc i) (by decide) rfl (fun ls hl => ?_)
        refine lv_goto (tgt := 4) hx hb dX1_shorts_36 (by decide) ?_
        have e5 : mSh N (i + 1) r = (mSh N i r) + 1 := by show _ + (if _ then _ else _) = _; rw [if_neg c3] <;> rfl
        exact ih ls (by rw [e5]; exact lv_sub hl [0, 1, 2, 3] rfl)
set_option maxHeartbeats 4000000 in
set_option maxRecDepth 100000 in
theorem c_X1_owing (l : Launch) (D : va_G) (cI : ClassId) (b : Nat → Nat) (N : bS) {T R : Nat} (hI : MI N T R) : Rd l yX1_owing cX1_owing 3 (some .int) ({ frames := 0, cells := 0, slots := 0, locals := 0 } : Room) (MW D cI b N) [.ref (b 5)] (.int (mOw N R)) := by
  refine Rd.of (by decide) (Nat.le_of_ble_eq_true rfl) ?_
  intro p e s m args below meth c ls hC hr hlocks hB hl
  have hx := hC.1
  have hb := hC.2.1
  obtain ⟨hT, hR, hT8, hR6⟩ := id hI
  have hl : lv_has ls 3 [(0, .ref (b 5))] := hl
  refine lv_iconst (v := 0) hx hb dX1_owing_0 (by decide) ?_
  refine lv_istore_n (lv' := [(1, .int (0)), (0, .ref (b 5))]) hx hb dX1_owing_1 rfl hl (by decide) rfl (fun ls hl => ?_)
  refine lv_iconst (v := 0) hx hb dX1_owing_2 (by decide) ?_
  refine lv_istore_n (lv' := [(2, .int (0)), (1, .int (0)), (0, .ref (b 5))]) hx hb dX1_owing_3 rfl hl (by decide) rfl (fun ls hl => ?_)
  refine loopU (P := fun i => ∀ ls : Array Slot, lv_has ls 3 [(2, .int (nI i)), (1, .int (mOw N i)), (0, .ref (b 5))] → W p l e ({ frames := 0, cells := 0, slots := 0, locals := 0 } : Room) s m args below meth c s.heap [] 0 0 (MQ below (k2_QcV (.int (mOw N R))) args s 0 0 (fun _ => False)) (F0 m 4 ls [])) (R) ?_ ?_ 0 (by omega) ls (by first | exact lv_sub hl [0, 1, 2] rfl | (simpa using lv_sub hl [0, 1, 2] rfl))
  · intro ls hl
    refine lv_iload_n hx hb dX1_owing_4 rfl (lv_at hl 0 rfl) ?_
    refine lv_aload_n hx hb dX1_owing_5 rfl (lv_at hl 2 rfl) ?_
    refine gM_traders hC hB hR dX1_owing_6 ?_
    refine jge (i := R) (j := R) (tgt := 38) hC dX1_owing_9 (by decide) rfl rfl (by omega) (by omega) (fun c1 => ?_) (fun c1 => ?_)
    · refine lv_iload_n hx hb dX1_owing_38 rfl (lv_at hl 1 rfl) ?_
      exact rd_i hC hr hlocks dX1_owing_39 (by rfl)
    · exfalso; omega
  · intro i hi ih ls hl
    refine lv_iload_n hx hb dX1_owing_4 rfl (lv_at hl 0 rfl) ?_
    refine lv_aload_n hx hb dX1_owing_5 rfl (lv_at hl 2 rfl) ?_
    refine gM_traders hC hB hR dX1_owing_6 ?_
    refine jge (i := i) (j := R) (tgt := 38) hC dX1_owing_9 (by decide) rfl rfl (by omega) (by omega) (fun c2 => ?_) (fun c2 => ?_)
    · exfalso; omega
    · refine lv_iload_n hx hb dX1_owing_12 rfl (lv_at hl 1 rfl) ?_
      refine lv_aload_n hx hb dX1_owing_13 rfl (lv_at hl 2 rfl) ?_
      refine gM_now hC hB dX1_owing_14 ?_
      refine lv_bipush (v := 17) hx hb dX1_owing_17 (by decide) ?_
      refine lv_iload_n hx hb dX1_owing_19 rfl (lv_at hl 0 rfl) ?_
      refine xadd (v := nI (17 + i)) hC dX1_owing_20 (nadd (i := 17) (j := i) rfl rfl) ?_
      refine lM_now (17 + i) hC hB rfl (by omega) rfl dX1_owing_21 ?_
      refine lv_if_ge (tgt := 29) hx hb dX1_owing_22 (by decide) (fun c3 => ?_) (fun c3 => ?_)
      · refine lv_iconst (v := 0) hx hb dX1_owing_29 (by decide) ?_
        refine lv_iadd hx hb dX1_owing_30 ?_
        refine lv_istore_n (lv' := [(1, .int ((mOw N i) + 0)), (2, .int (nI i)), (0, .ref (b 5))]) hx hb dX1_owing_31 rfl hl (by decide) rfl (fun ls hl => ?_)
        refine lv_iinc (v := nI (i + 1)) (lv' := [(2, .int (nI (i + 1))), (1, .int ((mOw N i) + 0)), (0, .ref (b 5))]) hx hb dX1_owing_32 hl (k := 1) rfl (ninc i) (by decide) rfl (fun ls hl => ?_)
        refine lv_goto (tgt := 4) hx hb dX1_owing_35 (by decide) ?_
        have e4 : mOw N (i + 1) = (mOw N i) + 0 := by show _ + (if _ then _ else _) = _; rw [if_pos c3] <;> rfl
        exact ih ls (by rw [e4]; exact lv_sub hl [0, 1, 2] rfl)
      · refine lv_iconst (v := 1) hx hb dX1_owing_25 (by decide) ?_
        refine lv_goto (tgt := 30) hx hb dX1_owing_26 (by decide) ?_
        refine lv_iadd hx hb dX1_owing_30 ?_
        refine lv_istore_n (lv' := [(1, .int ((mOw N i) + 1)), (2, .int (nI i)), (0, .ref (b 5))]) hx hb dX1_owing_31 rfl hl (by decide) rfl (fun ls hl => ?_)
        refine lv_iinc (v := nI (i + 1)) (lv' := [(2, .int (nI (i + 1))), (1, .int ((mOw N i) + 1)), (0, .ref (b 5))]) hx hb dX1_owing_32 hl (k := 1) rfl (ninc i) (by decide) rfl (fun ls hl => ?_)
        refine lv_goto (tgt := 4) hx hb dX1_owing_35 (by decide) ?_
        have e5 : mOw N (i + 1) = (mOw N i) + 1 := by show _ + (if _ then _ else _) = _; rw [if_neg c3] <;> rfl
        exact ih ls (by rw [e5]; exact lv_sub hl [0, 1, 2] rfl)
set_option maxHeartbeats 4000000 in
set_option maxRecDepth 100000 in
theorem c_X1_closing (l : Launch) (D : va_G) (cI : ClassId) (b : Nat → Nat) (N : bS) {T R : Nat} {u : Nat → Nat} {t : Nat} (hI : MI N T R) (ht : t < T) (hU : ∀ t, t < T → mU N t (u t)) (hP : mP N T) : Rd l yX1_closing cX1_closing 2 (some .int) ({ frames := 3, cells := 0, slots := 0, locals := 69 } : Room) (MW D cI b N) [.ref (b 5), .int (nI t)] (.int (mCl N R u t)) := by
  refine Rd.of (by decide) (Nat.le_of_ble_eq_true rfl) ?_
  intro p e s m args below meth c ls hC hr hlocks hB hl
  have hx := hC.1
  have hb := hC.2.1
  obtain ⟨hT, hR, hT8, hR6⟩ := id hI
  have hl : lv_has ls 2 [(0, .ref (b 5)), (1, .int (nI t))] := hl
  refine lv_aload_n hx hb dX1_closing_0 rfl (lv_at hl 0 rfl) ?_
  refine lv_iload_n hx hb dX1_closing_1 rfl (lv_at hl 1 rfl) ?_
  refine lv_aload_n hx hb dX1_closing_2 rfl (lv_at hl 0 rfl) ?_
  refine lv_iload_n hx hb dX1_closing_3 rfl (lv_at hl 1 rfl) ?_
  refine k_X1_until hC (c_X1_until l D cI b N (t := t) (hI) (by omega) ((hU) _ (by omega)) (hP)) hB rfl ⟨rfl, rfl⟩ ⟨Nat.le_of_ble_eq_true rfl, Nat.le_of_ble_eq_true rfl⟩ ⟨Nat.zero_le _, Nat.zero_le _⟩ hl.1 rfl (Nat.le_of_ble_eq_true rfl) dX1_closing_4 ?_
  refine lv_iconst (v := 1) hx hb dX1_closing_7 (by decide) ?_
  refine lv_isub hx hb dX1_closing_8 ?_
  refine k_X1_priceBehind hC (c_X1_priceBehind l D cI b N (t := t) ((nI (u t)) - 1) (hI) (by omega)) hB rfl ⟨rfl, rfl⟩ ⟨Nat.le_of_ble_eq_true rfl, Nat.le_of_ble_eq_true rfl⟩ ⟨Nat.zero_le _, Nat.zero_le _⟩ hl.1 rfl (Nat.le_of_ble_eq_true rfl) dX1_closing_9 ?_
  exact rd_i hC hr hlocks dX1_closing_12 (by rfl)
set_option maxHeartbeats 4000000 in
set_option maxRecDepth 100000 in
theorem c_X1_toBuy (l : Launch) (D : va_G) (cI : ClassId) (b : Nat → Nat) (N : bS) {T R : Nat} {u : Nat → Nat} (hI : MI N T R) (hU : ∀ t, t < T → mU N t (u t)) (hP : mP N T) : Rd l yX1_toBuy cX1_toBuy 5 (some .int) ({ frames := 4, cells := 0, slots := 0, locals := 90 } : Room) (MW D cI b N) [.ref (b 5)] (.int (oI (mBu N T R u).1)) := by
  refine Rd.of (by decide) (Nat.le_of_ble_eq_true rfl) ?_
  intro p e s m args below meth c ls hC hr hlocks hB hl
  have hx := hC.1
  have hb := hC.2.1
  obtain ⟨hT, hR, hT8, hR6⟩ := id hI
  have hl : lv_has ls 5 [(0, .ref (b 5))] := hl
  refine lv_iconst (v := -1) hx hb dX1_toBuy_0 (by decide) ?_
  refine lv_istore_n (lv' := [(1, .int (-1)), (0, .ref (b 5))]) hx hb dX1_toBuy_1 rfl hl (by decide) rfl (fun ls hl => ?_)
  refine lv_iconst (v := 0) hx hb dX1_toBuy_2 (by decide) ?_
  refine lv_istore_n (lv' := [(2, .int (0)), (1, .int (-1)), (0, .ref (b 5))]) hx hb dX1_toBuy_3 rfl hl (by decide) rfl (fun ls hl => ?_)
  refine lv_iconst (v := 0) hx hb dX1_toBuy_4 (by decide) ?_
  refine lv_istore_n (lv' := [(3, .int (0)), (2, .int (0)), (1, .int (-1)), (0, .ref (b 5))]) hx hb dX1_toBuy_5 rfl hl (by decide) rfl (fun ls hl => ?_)
  refine loopU (P := fun i => ∀ ls : Array Slot, lv_has ls 5 [(3, .int (nI i)), (2, .int ((mTb (fun t => mCl N R u t - mPr N R t) i).2)), (1, .int (oI (mTb (fun t => mCl N R u t - mPr N R t) i).1)), (0, .ref (b 5))] → W p l e ({ frames := 4, cells := 0, slots := 0, locals := 90 } : Room) s m args below meth c s.heap [] 0 0 (MQ below (k2_QcV (.int (oI (mBu N T R u).1))) args s 0 0 (fun _ => False)) (F0 m 6 ls [])) (T) ?_ ?_ 0 (by omega) ls (by first | exact lv_sub hl [0, 1, 2, 3] rfl | (simpa using lv_sub hl [0, 1, 2, 3] rfl))
  · intro ls hl
    refine lv_iload_n hx hb dX1_toBuy_6 rfl (lv_at hl 0 rfl) ?_
    refine lv_aload_n hx hb dX1_toBuy_7 rfl (lv_at hl 3 rfl) ?_
    refine gM_towers hC hB hT dX1_toBuy_8 ?_
    refine jge (i := T) (j := T) (tgt := 47) hC dX1_toBuy_11 (by decide) rfl rfl (by omega) (by omega) (fun c1 => ?_) (fun c1 => ?_)
    · refine lv_iload_n hx hb dX1_toBuy_47 rfl (lv_at hl 2 rfl) ?_
      exact rd_i hC hr hlocks dX1_toBuy_48 (by rfl)
    · exfalso; omega
  · intro i hi ih ls hl
    refine lv_iload_n hx hb dX1_toBuy_6 rfl (lv_at hl 0 rfl) ?_
    refine lv_aload_n hx hb dX1_toBuy_7 rfl (lv_at hl 3 rfl) ?_
    refine gM_towers hC hB hT dX1_toBuy_8 ?_
    refine jge (i := i) (j := T) (tgt := 47) hC dX1_toBuy_11 (by decide) rfl rfl (by omega) (by omega) (fun c2 => ?_) (fun c2 => ?_)
    · exfalso; omega
    · refine lv_aload_n hx hb dX1_toBuy_14 rfl (lv_at hl 3 rfl) ?_
      refine lv_iload_n hx hb dX1_toBuy_15 rfl (lv_at hl 0 rfl) ?_
      refine k_X1_closing hC (c_X1_closing l D cI b N (u := u) (t := i) (hI) (by omega) (hU) (hP)) hB rfl ⟨rfl, rfl⟩ ⟨Nat.le_of_ble_eq_true rfl, Nat.le_of_ble_eq_true rfl⟩ ⟨Nat.zero_le _, Nat.zero_le _⟩ hl.1 rfl (Nat.le_of_ble_eq_true rfl) dX1_toBuy_16 ?_
      refine lv_aload_n hx hb dX1_toBuy_19 rfl (lv_at hl 3 rfl) ?_
      refine lv_iload_n hx hb dX1_toBuy_20 rfl (lv_at hl 0 rfl) ?_
      refine k_X1_price hC (c_X1_price l D cI b N (t := i) (hI) (by omega)) hB rfl ⟨rfl, rfl⟩ ⟨Nat.le_of_ble_eq_true rfl, Nat.le_of_ble_eq_true rfl⟩ ⟨Nat.zero_le _, Nat.zero_le _⟩ hl.1 rfl (Nat.le_of_ble_eq_true rfl) dX1_toBuy_21 ?_
      refine lv_isub hx hb dX1_toBuy_24 ?_
      refine lv_istore (lv' := [(4, .int ((mCl N R u i) - (mPr N R i))), (3, .int (nI i)), (2, .int ((mTb (fun t => mCl N R u t - mPr N R t) i).2)), (1, .int (oI (mTb (fun t => mCl N R u t - mPr N R t) i).1)), (0, .ref (b 5))]) hx hb dX1_toBuy_25 hl (by decide) rfl (fun ls hl => ?_)
      refine lv_iload hx hb dX1_toBuy_27 (lv_at hl 0 rfl) ?_
      refine lv_iload_n hx hb dX1_toBuy_29 rfl (lv_at hl 2 rfl) ?_
      refine lv_icmp_gt (tgt := 36) hx hb dX1_toBuy_30 (by decide) (fun c3 => ?_) (fun c3 => ?_)
      · refine lv_iload_n hx hb dX1_toBuy_36 rfl (lv_at hl 1 rfl) ?_
        refine lv_istore_n (lv' := [(1, .int (nI i)), (4, .int ((mCl N R u i) - (mPr N R i))), (3, .int (nI i)), (2, .int ((mTb (fun t => mCl N R u t - mPr N R t) i).2)), (0, .ref (b 5))]) hx hb dX1_toBuy_37 rfl hl (by decide) rfl (fun ls hl => ?_)
        refine lv_iload hx hb dX1_toBuy_38 (lv_at hl 1 rfl) ?_
        refine lv_istore_n (lv' := [(2, .int ((mCl N R u i) - (mPr N R i))), (1, .int (nI i)), (4, .int ((mCl N R u i) - (mPr N R i))), (3, .int (nI i)), (0, .ref (b 5))]) hx hb dX1_toBuy_40 rfl hl (by decide) rfl (fun ls hl => ?_)
        refine lv_iinc (v := nI (i + 1)) (lv' := [(3, .int (nI (i + 1))), (2, .int ((mCl N R u i) - (mPr N R i))), (1, .int (nI i)), (4, .int ((mCl N R u i) - (mPr N R i))), (0, .ref (b 5))]) hx hb dX1_toBuy_41 hl (k := 3) rfl (ninc i) (by decide) rfl (fun ls hl => ?_)
        refine lv_goto (tgt := 6) hx hb dX1_toBuy_44 (by decide) ?_
        have e4 : (mTb (fun t => mCl N R u t - mPr N R t) (i + 1)).2 = (mCl N R u i) - (mPr N R i) := by rw [mTb_new c3] <;> rfl
        have e5 : oI (mTb (fun t => mCl N R u t - mPr N R t) (i + 1)).1 = nI i := by rw [mTb_new c3] <;> rfl
        exact ih ls (by rw [e4, e5]; exact lv_sub hl [0, 1, 2, 4] rfl)
      · refine lv_goto (tgt := 41) hx hb dX1_toBuy_33 (by decide) ?_
        refine lv_iinc (v := nI (i + 1)) (lv' := [(3, .int (nI (i + 1))), (4, .int ((mCl N R u i) - (mPr N R i))), (2, .int ((mTb (fun t => mCl N R u t - mPr N R t) i).2)), (1, .int (oI (mTb (fun t => mCl N R u t - mPr N R t) i).1)), (0, .ref (b 5))]) hx hb dX1_toBuy_41 hl (k := 1) rfl (ninc i) (by decide) rfl (fun ls hl => ?_)
        refine lv_goto (tgt := 6) hx hb dX1_toBuy_44 (by decide) ?_
        have e6 : (mTb (fun t => mCl N R u t - mPr N R t) (i + 1)).2 = (mTb (fun t => mCl N R u t - mPr N R t) i).2 := by rw [mTb_keep c3] <;> rfl
        have e7 : oI (mTb (fun t => mCl N R u t - mPr N R t) (i + 1)).1 = oI (mTb (fun t => mCl N R u t - mPr N R t) i).1 := by rw [mTb_keep c3] <;> rfl
        exact ih ls (by rw [e6, e7]; exact lv_sub hl [0, 2, 3, 4] rfl)
set_option maxHeartbeats 4000000 in
set_option maxRecDepth 100000 in
theorem c_X1_thrown (l : Launch) (D : va_G) (cI : ClassId) (b : Nat → Nat) (N : bS) {T R : Nat} (hI : MI N T R) : Rd l yX1_thrown cX1_thrown 1 (some .int) ({ frames := 0, cells := 0, slots := 0, locals := 0 } : Room) (MW D cI b N) [.ref (b 5)] (.int (N 5 0)) := by
  refine Rd.of (by decide) (Nat.le_of_ble_eq_true rfl) ?_
  intro p e s m args below meth c ls hC hr hlocks hB hl
  have hx := hC.1
  have hb := hC.2.1
  obtain ⟨hT, hR, hT8, hR6⟩ := id hI
  have hl : lv_has ls 1 [(0, .ref (b 5))] := hl
  refine lv_aload_n hx hb dX1_thrown_0 rfl (lv_at hl 0 rfl) ?_
  refine gM_thrown hC hB rfl dX1_thrown_1 ?_
  exact rd_i hC hr hlocks dX1_thrown_4 (by rfl)

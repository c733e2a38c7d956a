set_option maxHeartbeats 4000000 in
set_option maxRecDepth 100000 in
theorem c_X0_price (l : Launch) (x y z : Int32)  : Rd l yX0_price cX0_price 3 (some .int) ({ frames := 1, cells := 0, slots := 0, locals := 24 } : Room) (fun _ _ => True) [.int (x), .int (y), .int (z)] (.int (pr x y z)) := by
  refine Rd.of (by decide) (Nat.le_of_ble_eq_true rfl) ?_
  intro p e s m args below meth c ls hC hr hlocks hB hl
  have hx := hC.1
  have hb := hC.2.1
  have hl : lv_has ls 3 [(0, .int (x)), (1, .int (y)), (2, .int (z))] := hl
  refine lv_iconst (v := 0) hx hb dX0_price_0 (by decide) ?_
  refine lv_iload_n hx hb dX0_price_1 rfl (lv_at hl 0 rfl) ?_
  refine lv_iload_n hx hb dX0_price_2 rfl (lv_at hl 1 rfl) ?_
  refine lv_imul hx hb dX0_price_3 ?_
  refine lv_iconst (v := 2) hx hb dX0_price_4 (by decide) ?_
  refine lv_iload_n hx hb dX0_price_5 rfl (lv_at hl 2 rfl) ?_
  refine lv_imul hx hb dX0_price_6 ?_
  refine lv_isub hx hb dX0_price_7 ?_
  refine k_X0_max hC hl.1 ⟨Nat.le_of_ble_eq_true rfl, Nat.le_of_ble_eq_true rfl⟩ ⟨Nat.le_of_ble_eq_true rfl, Nat.le_of_ble_eq_true rfl⟩ dX0_price_8 ?_
  exact rd_i hC hr hlocks dX0_price_11 (by rfl)
set_option maxHeartbeats 4000000 in
set_option maxRecDepth 100000 in
theorem c_X0_dovesFor (l : Launch) (x : Int32)  : Rd l yX0_dovesFor cX0_dovesFor 1 (some .int) ({ frames := 1, cells := 0, slots := 0, locals := 24 } : Room) (fun _ _ => True) [.int (x)] (.int (mx 0 (-x))) := by
  refine Rd.of (by decide) (Nat.le_of_ble_eq_true rfl) ?_
  intro p e s m args below meth c ls hC hr hlocks hB hl
  have hx := hC.1
  have hb := hC.2.1
  have hl : lv_has ls 1 [(0, .int (x))] := hl
  refine lv_iconst (v := 0) hx hb dX0_dovesFor_0 (by decide) ?_
  refine lv_iload_n hx hb dX0_dovesFor_1 rfl (lv_at hl 0 rfl) ?_
  refine lv_ineg hx hb dX0_dovesFor_2 ?_
  refine k_X0_max hC hl.1 ⟨Nat.le_of_ble_eq_true rfl, Nat.le_of_ble_eq_true rfl⟩ ⟨Nat.le_of_ble_eq_true rfl, Nat.le_of_ble_eq_true rfl⟩ dX0_dovesFor_3 ?_
  exact rd_i hC hr hlocks dX0_dovesFor_6 (by rfl)
set_option maxHeartbeats 4000000 in
set_option maxRecDepth 100000 in
theorem c_X0_dovesNow (l : Launch) (D : va_G) (cI cQ : ClassId) (a : Nat → Nat) (S : bS) {T R : Nat} {t : Nat} (hI : BI S T R) (ht : t < T) : Rd l yX0_dovesNow cX0_dovesNow 4 (some .int) ({ frames := 2, cells := 0, slots := 0, locals := 44 } : Room) (BW D cI cQ a S) [.ref (a 13), .int (nI t)] (.int (bDv S R t)) := by
  refine Rd.of (by decide) (Nat.le_of_ble_eq_true rfl) ?_
  intro p e s m args below meth c ls hC hr hlocks hB hl
  have hx := hC.1
  have hb := hC.2.1
  obtain ⟨hT, hR, hT8, hR6⟩ := id hI
  have hl : lv_has ls 4 [(0, .ref (a 13)), (1, .int (nI t))] := hl
  refine lv_iconst (v := 0) hx hb dX0_dovesNow_0 (by decide) ?_
  refine lv_istore_n (lv' := [(2, .int (0)), (0, .ref (a 13)), (1, .int (nI t))]) hx hb dX0_dovesNow_1 rfl hl (by decide) rfl (fun ls hl => ?_)
  refine lv_iconst (v := 0) hx hb dX0_dovesNow_2 (by decide) ?_
  refine lv_istore_n (lv' := [(3, .int (0)), (2, .int (0)), (0, .ref (a 13)), (1, .int (nI t))]) hx hb dX0_dovesNow_3 rfl hl (by decide) rfl (fun ls hl => ?_)
  refine loopU (P := fun i => ∀ ls : Array Slot, lv_has ls 4 [(3, .int (nI i)), (2, .int (bDv S i t)), (0, .ref (a 13)), (1, .int (nI t))] → W p l e ({ frames := 2, cells := 0, slots := 0, locals := 44 } : Room) s m args below meth c s.heap [] 0 0 (MQ below (k2_QcV (.int (bDv S R t))) args s 0 0 (fun _ => False)) (F0 m 4 ls [])) (R) ?_ ?_ 0 (by omega) ls (by first | exact lv_sub hl [0, 1, 2, 3] rfl | (simpa using lv_sub hl [0, 1, 2, 3] rfl))
  · intro ls hl
    refine lv_iload_n hx hb dX0_dovesNow_4 rfl (lv_at hl 0 rfl) ?_
    refine lv_aload_n hx hb dX0_dovesNow_5 rfl (lv_at hl 2 rfl) ?_
    refine gB_traderCount hC hB hR dX0_dovesNow_6 ?_
    refine jge (i := R) (j := R) (tgt := 32) hC dX0_dovesNow_9 (by decide) rfl rfl (by omega) (by omega) (fun c1 => ?_) (fun c1 => ?_)
    · refine lv_iload_n hx hb dX0_dovesNow_32 rfl (lv_at hl 1 rfl) ?_
      exact rd_i hC hr hlocks dX0_dovesNow_33 (by rfl)
    · exfalso; omega
  · intro i hi ih ls hl
    refine lv_iload_n hx hb dX0_dovesNow_4 rfl (lv_at hl 0 rfl) ?_
    refine lv_aload_n hx hb dX0_dovesNow_5 rfl (lv_at hl 2 rfl) ?_
    refine gB_traderCount hC hB hR dX0_dovesNow_6 ?_
    refine jge (i := i) (j := R) (tgt := 32) hC dX0_dovesNow_9 (by decide) rfl rfl (by omega) (by omega) (fun c2 => ?_) (fun c2 => ?_)
    · exfalso; omega
    · refine lv_iload_n hx hb dX0_dovesNow_12 rfl (lv_at hl 1 rfl) ?_
      refine lv_aload_n hx hb dX0_dovesNow_13 rfl (lv_at hl 2 rfl) ?_
      refine gB_held hC hB dX0_dovesNow_14 ?_
      refine lv_iload_n hx hb dX0_dovesNow_17 rfl (lv_at hl 0 rfl) ?_
      refine lB_row (i) hC hB rfl (by omega) dX0_dovesNow_18 ?_
      refine lv_iload_n hx hb dX0_dovesNow_19 rfl (lv_at hl 3 rfl) ?_
      refine lB_held (i) (t) hC hB (by omega) rfl (by omega) rfl dX0_dovesNow_20 ?_
      refine k_X0_dovesFor hC (c_X0_dovesFor l (S (7 + i) t)) mov_T trivial rfl ⟨rfl, rfl⟩ ⟨Nat.le_of_ble_eq_true rfl, Nat.le_of_ble_eq_true rfl⟩ ⟨Nat.zero_le _, Nat.zero_le _⟩ hl.1 rfl (Nat.le_of_ble_eq_true rfl) dX0_dovesNow_21 ?_
      refine lv_iadd hx hb dX0_dovesNow_24 ?_
      refine lv_istore_n (lv' := [(2, .int ((bDv S i t) + (mx 0 (-(S (7 + i) t))))), (3, .int (nI i)), (0, .ref (a 13)), (1, .int (nI t))]) hx hb dX0_dovesNow_25 rfl hl (by decide) rfl (fun ls hl => ?_)
      refine lv_iinc (v := nI (i + 1)) (lv' := [(3, .int (nI (i + 1))), (2, .int ((bDv S i t) + (mx 0 (-(S (7 + i) t))))), (0, .ref (a 13)), (1, .int (nI t))]) hx hb dX0_dovesNow_26 hl (k := 1) rfl (ninc i) (by decide) rfl (fun ls hl => ?_)
      refine lv_goto (tgt := 4) hx hb dX0_dovesNow_29 (by decide) ?_
      exact ih ls (lv_sub hl [0, 1, 2, 3] rfl)
set_option maxHeartbeats 4000000 in
set_option maxRecDepth 100000 in
theorem c_X0_priceNow (l : Launch) (D : va_G) (cI cQ : ClassId) (a : Nat → Nat) (S : bS) {T R : Nat} {t : Nat} (hI : BI S T R) (ht : t < T) : Rd l yX0_priceNow cX0_priceNow 2 (some .int) ({ frames := 3, cells := 0, slots := 0, locals := 67 } : Room) (BW D cI cQ a S) [.ref (a 13), .int (nI t)] (.int (bPr S R t)) := by
  refine Rd.of (by decide) (Nat.le_of_ble_eq_true rfl) ?_
  intro p e s m args below meth c ls hC hr hlocks hB hl
  have hx := hC.1
  have hb := hC.2.1
  obtain ⟨hT, hR, hT8, hR6⟩ := id hI
  have hl : lv_has ls 2 [(0, .ref (a 13)), (1, .int (nI t))] := hl
  refine lv_aload_n hx hb dX0_priceNow_0 rfl (lv_at hl 0 rfl) ?_
  refine gB_silence hC hB dX0_priceNow_1 ?_
  refine lv_iload_n hx hb dX0_priceNow_4 rfl (lv_at hl 1 rfl) ?_
  refine lB_silence (t) hC hB rfl (by omega) rfl dX0_priceNow_5 ?_
  refine lv_aload_n hx hb dX0_priceNow_6 rfl (lv_at hl 0 rfl) ?_
  refine gB_loudness hC hB dX0_priceNow_7 ?_
  refine lv_iload_n hx hb dX0_priceNow_10 rfl (lv_at hl 1 rfl) ?_
  refine lB_loudness (t) hC hB rfl (by omega) rfl dX0_priceNow_11 ?_
  refine lv_aload_n hx hb dX0_priceNow_12 rfl (lv_at hl 0 rfl) ?_
  refine lv_iload_n hx hb dX0_priceNow_13 rfl (lv_at hl 1 rfl) ?_
  refine k_X0_dovesNow hC (c_X0_dovesNow l D cI cQ a S hI (t := t) (by omega)) hB rfl ⟨rfl, rfl⟩ ⟨Nat.le_of_ble_eq_true rfl, Nat.le_of_ble_eq_true rfl⟩ ⟨Nat.zero_le _, Nat.zero_le _⟩ hl.1 rfl (Nat.le_of_ble_eq_true rfl) dX0_priceNow_14 ?_
  refine k_X0_price hC (c_X0_price l (S 2 t) (S 0 t) (bDv S R t)) mov_T trivial rfl ⟨rfl, rfl⟩ ⟨Nat.le_of_ble_eq_true rfl, Nat.le_of_ble_eq_true rfl⟩ ⟨Nat.zero_le _, Nat.zero_le _⟩ hl.1 rfl (Nat.le_of_ble_eq_true rfl) dX0_priceNow_17 ?_
  exact rd_i hC hr hlocks dX0_priceNow_20 (by rfl)
set_option maxHeartbeats 4000000 in
set_option maxRecDepth 100000 in
theorem c_X0_closingWith (l : Launch) (D : va_G) (cI cQ : ClassId) (a : Nat → Nat) (S : bS) {T R : Nat} {t : Nat} (dv : Int32) (hI : BI S T R) (ht : t < T) : Rd l yX0_closingWith cX0_closingWith 3 (some .int) ({ frames := 2, cells := 0, slots := 0, locals := 46 } : Room) (BW D cI cQ a S) [.ref (a 13), .int (nI t), .int (dv)] (.int (bCw S t dv)) := by
  refine Rd.of (by decide) (Nat.le_of_ble_eq_true rfl) ?_
  intro p e s m args below meth c ls hC hr hlocks hB hl
  have hx := hC.1
  have hb := hC.2.1
  obtain ⟨hT, hR, hT8, hR6⟩ := id hI
  have hl : lv_has ls 3 [(0, .ref (a 13)), (1, .int (nI t)), (2, .int (dv))] := hl
  refine lv_aload_n hx hb dX0_closingWith_0 rfl (lv_at hl 0 rfl) ?_
  refine gB_silence hC hB dX0_closingWith_1 ?_
  refine lv_iload_n hx hb dX0_closingWith_4 rfl (lv_at hl 1 rfl) ?_
  refine lB_silence (t) hC hB rfl (by omega) rfl dX0_closingWith_5 ?_
  refine lv_aload_n hx hb dX0_closingWith_6 rfl (lv_at hl 0 rfl) ?_
  refine gB_untilStroke hC hB dX0_closingWith_7 ?_
  refine lv_iload_n hx hb dX0_closingWith_10 rfl (lv_at hl 1 rfl) ?_
  refine lB_untilStroke (t) hC hB rfl (by omega) rfl dX0_closingWith_11 ?_
  refine lv_iadd hx hb dX0_closingWith_12 ?_
  refine lv_iconst (v := 1) hx hb dX0_closingWith_13 (by decide) ?_
  refine lv_isub hx hb dX0_closingWith_14 ?_
  refine lv_aload_n hx hb dX0_closingWith_15 rfl (lv_at hl 0 rfl) ?_
  refine gB_loudness hC hB dX0_closingWith_16 ?_
  refine lv_iload_n hx hb dX0_closingWith_19 rfl (lv_at hl 1 rfl) ?_
  refine lB_loudness (t) hC hB rfl (by omega) rfl dX0_closingWith_20 ?_
  refine lv_iload_n hx hb dX0_closingWith_21 rfl (lv_at hl 2 rfl) ?_
  refine k_X0_price hC (c_X0_price l (((S 2 t) + (S 3 t)) - 1) (S 0 t) (dv)) mov_T trivial rfl ⟨rfl, rfl⟩ ⟨Nat.le_of_ble_eq_true rfl, Nat.le_of_ble_eq_true rfl⟩ ⟨Nat.zero_le _, Nat.zero_le _⟩ hl.1 rfl (Nat.le_of_ble_eq_true rfl) dX0_closingWith_22 ?_
  exact rd_i hC hr hlocks dX0_closingWith_25 (by rfl)
set_option maxHeartbeats 4000000 in
set_option maxRecDepth 100000 in
theorem c_X0_closing (l : Launch) (D : va_G) (cI cQ : ClassId) (a : Nat → Nat) (S : bS) {T R : Nat} {t : Nat} (hI : BI S T R) (ht : t < T) : Rd l yX0_closing cX0_closing 2 (some .int) ({ frames := 3, cells := 0, slots := 0, locals := 68 } : Room) (BW D cI cQ a S) [.ref (a 13), .int (nI t)] (.int (bCl S R t)) := by
  refine Rd.of (by decide) (Nat.le_of_ble_eq_true rfl) ?_
  intro p e s m args below meth c ls hC hr hlocks hB hl
  have hx := hC.1
  have hb := hC.2.1
  obtain ⟨hT, hR, hT8, hR6⟩ := id hI
  have hl : lv_has ls 2 [(0, .ref (a 13)), (1, .int (nI t))] := hl
  refine lv_aload_n hx hb dX0_closing_0 rfl (lv_at hl 0 rfl) ?_
  refine lv_iload_n hx hb dX0_closing_1 rfl (lv_at hl 1 rfl) ?_
  refine lv_aload_n hx hb dX0_closing_2 rfl (lv_at hl 0 rfl) ?_
  refine lv_iload_n hx hb dX0_closing_3 rfl (lv_at hl 1 rfl) ?_
  refine k_X0_dovesNow hC (c_X0_dovesNow l D cI cQ a S hI (t := t) (by omega)) hB rfl ⟨rfl, rfl⟩ ⟨Nat.le_of_ble_eq_true rfl, Nat.le_of_ble_eq_true rfl⟩ ⟨Nat.zero_le _, Nat.zero_le _⟩ hl.1 rfl (Nat.le_of_ble_eq_true rfl) dX0_closing_4 ?_
  refine k_X0_closingWith hC (c_X0_closingWith l D cI cQ a S (t := t) (bDv S R t) hI (by omega)) hB rfl ⟨rfl, rfl⟩ ⟨Nat.le_of_ble_eq_true rfl, Nat.le_of_ble_eq_true rfl⟩ ⟨Nat.zero_le _, Nat.zero_le _⟩ hl.1 rfl (Nat.le_of_ble_eq_true rfl) dX0_closing_7 ?_
  exact rd_i hC hr hlocks dX0_closing_10 (by rfl)
set_option maxHeartbeats 4000000 in
set_option maxRecDepth 100000 in
theorem c_X0_riseUntilStroke (l : Launch) (D : va_G) (cI cQ : ClassId) (a : Nat → Nat) (S : bS) {T R : Nat} {t : Nat} (hI : BI S T R) (ht : t < T) : Rd l yX0_riseUntilStroke cX0_riseUntilStroke 2 (some .int) ({ frames := 4, cells := 0, slots := 0, locals := 89 } : Room) (BW D cI cQ a S) [.ref (a 13), .int (nI t)] (.int (bRi S R t)) := by
  refine Rd.of (by decide) (Nat.le_of_ble_eq_true rfl) ?_
  intro p e s m args below meth c ls hC hr hlocks hB hl
  have hx := hC.1
  have hb := hC.2.1
  obtain ⟨hT, hR, hT8, hR6⟩ := id hI
  have hl : lv_has ls 2 [(0, .ref (a 13)), (1, .int (nI t))] := hl
  refine lv_aload_n hx hb dX0_riseUntilStroke_0 rfl (lv_at hl 0 rfl) ?_
  refine lv_iload_n hx hb dX0_riseUntilStroke_1 rfl (lv_at hl 1 rfl) ?_
  refine k_X0_closing hC (c_X0_closing l D cI cQ a S hI (t := t) (by omega)) hB rfl ⟨rfl, rfl⟩ ⟨Nat.le_of_ble_eq_true rfl, Nat.le_of_ble_eq_true rfl⟩ ⟨Nat.zero_le _, Nat.zero_le _⟩ hl.1 rfl (Nat.le_of_ble_eq_true rfl) dX0_riseUntilStroke_2 ?_
  refine lv_aload_n hx hb dX0_riseUntilStroke_5 rfl (lv_at hl 0 rfl) ?_
  refine lv_iload_n hx hb dX0_riseUntilStroke_6 rfl (lv_at hl 1 rfl) ?_
  refine k_X0_priceNow hC (c_X0_priceNow l D cI cQ a S hI (t := t) (by omega)) hB rfl ⟨rfl, rfl⟩ ⟨Nat.le_of_ble_eq_true rfl, Nat.le_of_ble_eq_true rfl⟩ ⟨Nat.zero_le _, Nat.zero_le _⟩ hl.1 rfl (Nat.le_of_ble_eq_true rfl) dX0_riseUntilStroke_7 ?_
  refine lv_isub hx hb dX0_riseUntilStroke_10 ?_
  exact rd_i hC hr hlocks dX0_riseUntilStroke_11 (by rfl)
set_option maxHeartbeats 4000000 in
set_option maxRecDepth 100000 in
theorem c_X0_priceBehind (l : Launch) (D : va_G) (cI cQ : ClassId) (a : Nat → Nat) (S : bS) {T R : Nat} {t k : Nat} (hI : BI S T R) (ht : t < T) : Rd l yX0_priceBehind cX0_priceBehind 6 (some .int) ({ frames := 3, cells := 0, slots := 0, locals := 67 } : Room) (BW D cI cQ a S) [.ref (a 13), .int (nI t), .int (nI k)] (.int (bPb S R t k)) := by
  refine Rd.of (by decide) (Nat.le_of_ble_eq_true rfl) ?_
  intro p e s m args below meth c ls hC hr hlocks hB hl
  have hx := hC.1
  have hb := hC.2.1
  obtain ⟨hT, hR, hT8, hR6⟩ := id hI
  have hl : lv_has ls 6 [(0, .ref (a 13)), (1, .int (nI t)), (2, .int (nI k))] := hl
  refine lv_iload_n hx hb dX0_priceBehind_0 rfl (lv_at hl 2 rfl) ?_
  refine lv_aload_n hx hb dX0_priceBehind_1 rfl (lv_at hl 0 rfl) ?_
  refine gB_untilStroke hC hB dX0_priceBehind_2 ?_
  refine lv_iload_n hx hb dX0_priceBehind_5 rfl (lv_at hl 1 rfl) ?_
  refine lB_untilStroke (t) hC hB rfl (by omega) rfl dX0_priceBehind_6 ?_
  refine lv_isub hx hb dX0_priceBehind_7 ?_
  refine lv_istore_n (lv' := [(3, .int ((nI k) - (S 3 t))), (0, .ref (a 13)), (1, .int (nI t)), (2, .int (nI k))]) hx hb dX0_priceBehind_8 rfl hl (by decide) rfl (fun ls hl => ?_)
  refine lv_iload_n hx hb dX0_priceBehind_9 rfl (lv_at hl 0 rfl) ?_
  refine lv_if_ge (tgt := 36) hx hb dX0_priceBehind_10 (by decide) (fun c1 => ?_) (fun c1 => ?_)
  · refine lv_aload_n hx hb dX0_priceBehind_36 rfl (lv_at hl 1 rfl) ?_
    refine gB_period hC hB dX0_priceBehind_37 ?_
    refine lv_iload_n hx hb dX0_priceBehind_40 rfl (lv_at hl 2 rfl) ?_
    refine lB_period (t) hC hB rfl (by omega) rfl dX0_priceBehind_41 ?_
    refine lv_istore (lv' := [(4, .int (S 1 t)), (3, .int ((nI k) - (S 3 t))), (0, .ref (a 13)), (1, .int (nI t)), (2, .int (nI k))]) hx hb dX0_priceBehind_42 hl (by decide) rfl (fun ls hl => ?_)
    refine lv_iload hx hb dX0_priceBehind_44 (lv_at hl 0 rfl) ?_
    refine lv_iconst (v := 2) hx hb dX0_priceBehind_46 (by decide) ?_
    refine lv_icmp_ge (tgt := 54) hx hb dX0_priceBehind_47 (by decide) (fun c2 => ?_) (fun c2 => ?_)
    · refine lv_iload_n hx hb dX0_priceBehind_54 rfl (lv_at hl 1 rfl) ?_
      refine lv_iload hx hb dX0_priceBehind_55 (lv_at hl 0 rfl) ?_
      refine lv_irem hx hb dX0_priceBehind_57 (fun h0 => absurd (h0 ▸ c2) (by decide)) ?_
      refine lv_istore (lv' := [(5, .int (rmi ((nI k) - (S 3 t)) (S 1 t))), (4, .int (S 1 t)), (3, .int ((nI k) - (S 3 t))), (0, .ref (a 13)), (1, .int (nI t)), (2, .int (nI k))]) hx hb dX0_priceBehind_58 hl (by decide) rfl (fun ls hl => ?_)
      refine lv_iload hx hb dX0_priceBehind_60 (lv_at hl 0 rfl) ?_
      refine lv_aload_n hx hb dX0_priceBehind_62 rfl (lv_at hl 3 rfl) ?_
      refine gB_loudness hC hB dX0_priceBehind_63 ?_
      refine lv_iload_n hx hb dX0_priceBehind_66 rfl (lv_at hl 4 rfl) ?_
      refine lB_loudness (t) hC hB rfl (by omega) rfl dX0_priceBehind_67 ?_
      refine lv_iconst (v := 0) hx hb dX0_priceBehind_68 (by decide) ?_
      refine k_X0_price hC (c_X0_price l (rmi ((nI k) - (S 3 t)) (S 1 t)) (S 0 t) (0)) mov_T trivial rfl ⟨rfl, rfl⟩ ⟨Nat.le_of_ble_eq_true rfl, Nat.le_of_ble_eq_true rfl⟩ ⟨Nat.zero_le _, Nat.zero_le _⟩ hl.1 rfl (Nat.le_of_ble_eq_true rfl) dX0_priceBehind_69 ?_
      exact rd_i hC hr hlocks dX0_priceBehind_72 (by unfold bPb; rw [if_pos c1, if_pos c2])
    · refine lv_iconst (v := 0) hx hb dX0_priceBehind_50 (by decide) ?_
      refine lv_goto (tgt := 58) hx hb dX0_priceBehind_51 (by decide) ?_
      refine lv_istore (lv' := [(5, .int (0)), (4, .int (S 1 t)), (3, .int ((nI k) - (S 3 t))), (0, .ref (a 13)), (1, .int (nI t)), (2, .int (nI k))]) hx hb dX0_priceBehind_58 hl (by decide) rfl (fun ls hl => ?_)
      refine lv_iload hx hb dX0_priceBehind_60 (lv_at hl 0 rfl) ?_
      refine lv_aload_n hx hb dX0_priceBehind_62 rfl (lv_at hl 3 rfl) ?_
      refine gB_loudness hC hB dX0_priceBehind_63 ?_
      refine lv_iload_n hx hb dX0_priceBehind_66 rfl (lv_at hl 4 rfl) ?_
      refine lB_loudness (t) hC hB rfl (by omega) rfl dX0_priceBehind_67 ?_
      refine lv_iconst (v := 0) hx hb dX0_priceBehind_68 (by decide) ?_
      refine k_X0_price hC (c_X0_price l (0) (S 0 t) (0)) mov_T trivial rfl ⟨rfl, rfl⟩ ⟨Nat.le_of_ble_eq_true rfl, Nat.le_of_ble_eq_true rfl⟩ ⟨Nat.zero_le _, Nat.zero_le _⟩ hl.1 rfl (Nat.le_of_ble_eq_true rfl) dX0_priceBehind_69 ?_
      exact rd_i hC hr hlocks dX0_priceBehind_72 (by unfold bPb; rw [if_pos c1, if_neg c2])
  · refine lv_aload_n hx hb dX0_priceBehind_13 rfl (lv_at hl 1 rfl) ?_
    refine gB_silence hC hB dX0_priceBehind_14 ?_
    refine lv_iload_n hx hb dX0_priceBehind_17 rfl (lv_at hl 2 rfl) ?_
    refine lB_silence (t) hC hB rfl (by omega) rfl dX0_priceBehind_18 ?_
    refine lv_iload_n hx hb dX0_priceBehind_19 rfl (lv_at hl 3 rfl) ?_
    refine lv_iadd hx hb dX0_priceBehind_20 ?_
    refine lv_aload_n hx hb dX0_priceBehind_21 rfl (lv_at hl 1 rfl) ?_
    refine gB_loudness hC hB dX0_priceBehind_22 ?_
    refine lv_iload_n hx hb dX0_priceBehind_25 rfl (lv_at hl 2 rfl) ?_
    refine lB_loudness (t) hC hB rfl (by omega) rfl dX0_priceBehind_26 ?_
    refine lv_aload_n hx hb dX0_priceBehind_27 rfl (lv_at hl 1 rfl) ?_
    refine lv_iload_n hx hb dX0_priceBehind_28 rfl (lv_at hl 2 rfl) ?_
    refine k_X0_dovesNow hC (c_X0_dovesNow l D cI cQ a S hI (t := t) (by omega)) hB rfl ⟨rfl, rfl⟩ ⟨Nat.le_of_ble_eq_true rfl, Nat.le_of_ble_eq_true rfl⟩ ⟨Nat.zero_le _, Nat.zero_le _⟩ hl.1 rfl (Nat.le_of_ble_eq_true rfl) dX0_priceBehind_29 ?_
    refine k_X0_price hC (c_X0_price l ((S 2 t) + (nI k)) (S 0 t) (bDv S R t)) mov_T trivial rfl ⟨rfl, rfl⟩ ⟨Nat.le_of_ble_eq_true rfl, Nat.le_of_ble_eq_true rfl⟩ ⟨Nat.zero_le _, Nat.zero_le _⟩ hl.1 rfl (Nat.le_of_ble_eq_true rfl) dX0_priceBehind_32 ?_
    exact rd_i hC hr hlocks dX0_priceBehind_35 (by unfold bPb; rw [if_neg c1])
set_option maxHeartbeats 4000000 in
set_option maxRecDepth 100000 in
theorem c_X0_heldByAll (l : Launch) (D : va_G) (cI cQ : ClassId) (a : Nat → Nat) (S : bS) {T R : Nat} {t : Nat} (hI : BI S T R) (ht : t < T) : Rd l yX0_heldByAll cX0_heldByAll 4 (some .int) ({ frames := 0, cells := 0, slots := 0, locals := 0 } : Room) (BW D cI cQ a S) [.ref (a 13), .int (nI t)] (.int (bOp S R t)) := by
  refine Rd.of (by decide) (Nat.le_of_ble_eq_true rfl) ?_
  intro p e s m args below meth c ls hC hr hlocks hB hl
  have hx := hC.1
  have hb := hC.2.1
  obtain ⟨hT, hR, hT8, hR6⟩ := id hI
  have hl : lv_has ls 4 [(0, .ref (a 13)), (1, .int (nI t))] := hl
  refine lv_iconst (v := 0) hx hb dX0_heldByAll_0 (by decide) ?_
  refine lv_istore_n (lv' := [(2, .int (0)), (0, .ref (a 13)), (1, .int (nI t))]) hx hb dX0_heldByAll_1 rfl hl (by decide) rfl (fun ls hl => ?_)
  refine lv_iconst (v := 0) hx hb dX0_heldByAll_2 (by decide) ?_
  refine lv_istore_n (lv' := [(3, .int (0)), (2, .int (0)), (0, .ref (a 13)), (1, .int (nI t))]) hx hb dX0_heldByAll_3 rfl hl (by decide) rfl (fun ls hl => ?_)
  refine loopU (P := fun i => ∀ ls : Array Slot, lv_has ls 4 [(3, .int (nI i)), (2, .int (bOp S i t)), (0, .ref (a 13)), (1, .int (nI t))] → W p l e ({ frames := 0, cells := 0, slots := 0, locals := 0 } : Room) s m args below meth c s.heap [] 0 0 (MQ below (k2_QcV (.int (bOp S R t))) args s 0 0 (fun _ => False)) (F0 m 4 ls [])) (R) ?_ ?_ 0 (by omega) ls (by first | exact lv_sub hl [0, 1, 2, 3] rfl | (simpa using lv_sub hl [0, 1, 2, 3] rfl))
  · intro ls hl
    refine lv_iload_n hx hb dX0_heldByAll_4 rfl (lv_at hl 0 rfl) ?_
    refine lv_aload_n hx hb dX0_heldByAll_5 rfl (lv_at hl 2 rfl) ?_
    refine gB_traderCount hC hB hR dX0_heldByAll_6 ?_
    refine jge (i := R) (j := R) (tgt := 29) hC dX0_heldByAll_9 (by decide) rfl rfl (by omega) (by omega) (fun c1 => ?_) (fun c1 => ?_)
    · refine lv_iload_n hx hb dX0_heldByAll_29 rfl (lv_at hl 1 rfl) ?_
      exact rd_i hC hr hlocks dX0_heldByAll_30 (by rfl)
    · exfalso; omega
  · intro i hi ih ls hl
    refine lv_iload_n hx hb dX0_heldByAll_4 rfl (lv_at hl 0 rfl) ?_
    refine lv_aload_n hx hb dX0_heldByAll_5 rfl (lv_at hl 2 rfl) ?_
    refine gB_traderCount hC hB hR dX0_heldByAll_6 ?_
    refine jge (i := i) (j := R) (tgt := 29) hC dX0_heldByAll_9 (by decide) rfl rfl (by omega) (by omega) (fun c2 => ?_) (fun c2 => ?_)
    · exfalso; omega
    · refine lv_iload_n hx hb dX0_heldByAll_12 rfl (lv_at hl 1 rfl) ?_
      refine lv_aload_n hx hb dX0_heldByAll_13 rfl (lv_at hl 2 rfl) ?_
      refine gB_held hC hB dX0_heldByAll_14 ?_
      refine lv_iload_n hx hb dX0_heldByAll_17 rfl (lv_at hl 0 rfl) ?_
      refine lB_row (i) hC hB rfl (by omega) dX0_heldByAll_18 ?_
      refine lv_iload_n hx hb dX0_heldByAll_19 rfl (lv_at hl 3 rfl) ?_
      refine lB_held (i) (t) hC hB (by omega) rfl (by omega) rfl dX0_heldByAll_20 ?_
      refine lv_iadd hx hb dX0_heldByAll_21 ?_
      refine lv_istore_n (lv' := [(2, .int ((bOp S i t) + (S (7 + i) t))), (3, .int (nI i)), (0, .ref (a 13)), (1, .int (nI t))]) hx hb dX0_heldByAll_22 rfl hl (by decide) rfl (fun ls hl => ?_)
      refine lv_iinc (v := nI (i + 1)) (lv' := [(3, .int (nI (i + 1))), (2, .int ((bOp S i t) + (S (7 + i) t))), (0, .ref (a 13)), (1, .int (nI t))]) hx hb dX0_heldByAll_23 hl (k := 1) rfl (ninc i) (by decide) rfl (fun ls hl => ?_)
      refine lv_goto (tgt := 4) hx hb dX0_heldByAll_26 (by decide) ?_
      exact ih ls (lv_sub hl [0, 1, 2, 3] rfl)
set_option maxHeartbeats 4000000 in
set_option maxRecDepth 100000 in
theorem c_X0_shortTowers (l : Launch) (D : va_G) (cI cQ : ClassId) (a : Nat → Nat) (S : bS) {T R : Nat} {r : Nat} (hI : BI S T R) (hr9 : r < R) : Rd l yX0_shortTowers cX0_shortTowers 4 (some .int) ({ frames := 0, cells := 0, slots := 0, locals := 0 } : Room) (BW D cI cQ a S) [.ref (a 13), .int (nI r)] (.int (bSh S T r)) := by
  refine Rd.of (by decide) (Nat.le_of_ble_eq_true rfl) ?_
  intro p e s m args below meth c ls hC hr hlocks hB hl
  have hx := hC.1
  have hb := hC.2.1
  obtain ⟨hT, hR, hT8, hR6⟩ := id hI
  have hl : lv_has ls 4 [(0, .ref (a 13)), (1, .int (nI r))] := hl
  refine lv_iconst (v := 0) hx hb dX0_shortTowers_0 (by decide) ?_
  refine lv_istore_n (lv' := [(2, .int (0)), (0, .ref (a 13)), (1, .int (nI r))]) hx hb dX0_shortTowers_1 rfl hl (by decide) rfl (fun ls hl => ?_)
  refine lv_iconst (v := 0) hx hb dX0_shortTowers_2 (by decide) ?_
  refine lv_istore_n (lv' := [(3, .int (0)), (2, .int (0)), (0, .ref (a 13)), (1, .int (nI r))]) hx hb dX0_shortTowers_3 rfl hl (by decide) rfl (fun ls hl => ?_)
  refine loopU (P := fun i => ∀ ls : Array Slot, lv_has ls 4 [(3, .int (nI i)), (2, .int (bSh S i r)), (0, .ref (a 13)), (1, .int (nI r))] → W p l e ({ frames := 0, cells := 0, slots := 0, locals := 0 } : Room) s m args below meth c s.heap [] 0 0 (MQ below (k2_QcV (.int (bSh S T r))) args s 0 0 (fun _ => False)) (F0 m 4 ls [])) (T) ?_ ?_ 0 (by omega) ls (by first | exact lv_sub hl [0, 1, 2, 3] rfl | (simpa using lv_sub hl [0, 1, 2, 3] rfl))
  · intro ls hl
    refine lv_iload_n hx hb dX0_shortTowers_4 rfl (lv_at hl 0 rfl) ?_
    refine lv_aload_n hx hb dX0_shortTowers_5 rfl (lv_at hl 2 rfl) ?_
    refine gB_towerCount hC hB hT dX0_shortTowers_6 ?_
    refine jge (i := T) (j := T) (tgt := 32) hC dX0_shortTowers_9 (by decide) rfl rfl (by omega) (by omega) (fun c1 => ?_) (fun c1 => ?_)
    · refine lv_iload_n hx hb dX0_shortTowers_32 rfl (lv_at hl 1 rfl) ?_
      exact rd_i hC hr hlocks dX0_shortTowers_33 (by rfl)
    · exfalso; omega
  · intro i hi ih ls hl
    refine lv_iload_n hx hb dX0_shortTowers_4 rfl (lv_at hl 0 rfl) ?_
    refine lv_aload_n hx hb dX0_shortTowers_5 rfl (lv_at hl 2 rfl) ?_
    refine gB_towerCount hC hB hT dX0_shortTowers_6 ?_
    refine jge (i := i) (j := T) (tgt := 32) hC dX0_shortTowers_9 (by decide) rfl rfl (by omega) (by omega) (fun c2 => ?_) (fun c2 => ?_)
    · exfalso; omega
    · refine lv_aload_n hx hb dX0_shortTowers_12 rfl (lv_at hl 2 rfl) ?_
      refine gB_held hC hB dX0_shortTowers_13 ?_
      refine lv_iload_n hx hb dX0_shortTowers_16 rfl (lv_at hl 3 rfl) ?_
      refine lB_row (r) hC hB rfl (by omega) dX0_shortTowers_17 ?_
      refine lv_iload_n hx hb dX0_shortTowers_18 rfl (lv_at hl 0 rfl) ?_
      refine lB_held (r) (i) hC hB (by omega) rfl (by omega) rfl dX0_shortTowers_19 ?_
      refine lv_if_ge (tgt := 26) hx hb dX0_shortTowers_20 (by decide) (fun c3 => ?_) (fun c3 => ?_)
      · refine lv_iinc (v := nI (i + 1)) (lv' := [(3, .int (nI (i + 1))), (2, .int (bSh S i r)), (0, .ref (a 13)), (1, .int (nI r))]) hx hb dX0_shortTowers_26 hl (k := 0) rfl (ninc i) (by decide) rfl (fun ls hl => ?_)
        refine lv_goto (tgt := 4) hx hb dX0_shortTowers_29 (by decide) ?_
        have e4 : bSh S (i + 1) r = bSh S i r := by show _ + (if _ then _ else _) = _; rw [if_pos c3, Int32.add_zero]; rfl
        exact ih ls (by rw [e4]; exact lv_sub hl [0, 1, 2, 3] rfl)
      · refine lv_iinc (v := (bSh S i r) + 1) (lv' := [(2, .int ((bSh S i r) + 1)), (3, .int (nI i)), (0, .ref (a 13)), (1, .int (nI r))]) hx hb dX0_shortTowers_23 hl (k := 1) rfl (rfl) (by decide) rfl (fun ls hl => ?_)
        refine lv_iinc (v := nI (i + 1)) (lv' := [(3, .int (nI (i + 1))), (2, .int ((bSh S i r) + 1)), (0, .ref (a 13)), (1, .int (nI r))]) hx hb dX0_shortTowers_26 hl (k := 1) rfl (ninc i) (by decide) rfl (fun ls hl => ?_)
        refine lv_goto (tgt := 4) hx hb dX0_shortTowers_29 (by decide) ?_
        have e5 : bSh S (i + 1) r = (bSh S i r) + 1 := by show _ + (if _ then _ else _) = _; rw [if_neg c3]; rfl
        exact ih ls (by rw [e5]; exact lv_sub hl [0, 1, 2, 3] rfl)
set_option maxHeartbeats 4000000 in
set_option maxRecDepth 100000 in
theorem c_X0_worthBehind (l : Launch) (D : va_G) (cI cQ : ClassId) (a : Nat → Nat) (S : bS) {T R : Nat} {r k : Nat} (hI : BI S T R) (hr9 : r < R) : Rd l yX0_worthBehind cX0_worthBehind 7 (some .int) ({ frames := 4, cells := 0, slots := 0, locals := 92 } : Room) (BW D cI cQ a S) [.ref (a 13), .int (nI r), .int (nI k)] (.int (bWb S T R r k)) := by
  refine Rd.of (by decide) (Nat.le_of_ble_eq_true rfl) ?_
  intro p e s m args below meth c ls hC hr hlocks hB hl
  have hx := hC.1
  have hb := hC.2.1
  obtain ⟨hT, hR, hT8, hR6⟩ := id hI
  have hl : lv_has ls 7 [(0, .ref (a 13)), (1, .int (nI r)), (2, .int (nI k))] := hl
  refine lv_aload_n hx hb dX0_worthBehind_0 rfl (lv_at hl 0 rfl) ?_
  refine gB_purse hC hB dX0_worthBehind_1 ?_
  refine lv_iload_n hx hb dX0_worthBehind_4 rfl (lv_at hl 1 rfl) ?_
  refine lB_purse (r) hC hB rfl (by omega) rfl dX0_worthBehind_5 ?_
  refine lv_istore_n (lv' := [(3, .int (S 5 r)), (0, .ref (a 13)), (1, .int (nI r)), (2, .int (nI k))]) hx hb dX0_worthBehind_6 rfl hl (by decide) rfl (fun ls hl => ?_)
  refine lv_iconst (v := 0) hx hb dX0_worthBehind_7 (by decide) ?_
  refine lv_istore (lv' := [(4, .int (0)), (3, .int (S 5 r)), (0, .ref (a 13)), (1, .int (nI r)), (2, .int (nI k))]) hx hb dX0_worthBehind_8 hl (by decide) rfl (fun ls hl => ?_)
  refine loopU (P := fun i => ∀ ls : Array Slot, lv_has ls 7 [(4, .int (nI i)), (3, .int (bWb S i R r k)), (0, .ref (a 13)), (1, .int (nI r)), (2, .int (nI k))] → W p l e ({ frames := 4, cells := 0, slots := 0, locals := 92 } : Room) s m args below meth c s.heap [] 0 0 (MQ below (k2_QcV (.int (bWb S T R r k))) args s 0 0 (fun _ => False)) (F0 m 10 ls [])) (T) ?_ ?_ 0 (by omega) ls (by first | exact lv_sub hl [0, 1, 2, 3, 4] rfl | (simpa using lv_sub hl [0, 1, 2, 3, 4] rfl))
  · intro ls hl
    refine lv_iload hx hb dX0_worthBehind_10 (lv_at hl 0 rfl) ?_
    refine lv_aload_n hx hb dX0_worthBehind_12 rfl (lv_at hl 2 rfl) ?_
    refine gB_towerCount hC hB hT dX0_worthBehind_13 ?_
    refine jge (i := T) (j := T) (tgt := 81) hC dX0_worthBehind_16 (by decide) rfl rfl (by omega) (by omega) (fun c1 => ?_) (fun c1 => ?_)
    · refine lv_iload_n hx hb dX0_worthBehind_81 rfl (lv_at hl 1 rfl) ?_
      exact rd_i hC hr hlocks dX0_worthBehind_82 (by rfl)
    · exfalso; omega
  · intro i hi ih ls hl
    refine lv_iload hx hb dX0_worthBehind_10 (lv_at hl 0 rfl) ?_
    refine lv_aload_n hx hb dX0_worthBehind_12 rfl (lv_at hl 2 rfl) ?_
    refine gB_towerCount hC hB hT dX0_worthBehind_13 ?_
    refine jge (i := i) (j := T) (tgt := 81) hC dX0_worthBehind_16 (by decide) rfl rfl (by omega) (by omega) (fun c2 => ?_) (fun c2 => ?_)
    · exfalso; omega
    · refine lv_aload_n hx hb dX0_worthBehind_19 rfl (lv_at hl 2 rfl) ?_
      refine gB_untilStroke hC hB dX0_worthBehind_20 ?_
      refine lv_iload hx hb dX0_worthBehind_23 (lv_at hl 0 rfl) ?_
      refine lB_untilStroke (i) hC hB rfl (by omega) rfl dX0_worthBehind_25 ?_
      refine lv_iload_n hx hb dX0_worthBehind_26 rfl (lv_at hl 4 rfl) ?_
      refine lv_icmp_gt (tgt := 34) hx hb dX0_worthBehind_27 (by decide) (fun c3 => ?_) (fun c3 => ?_)
      · refine lv_iconst (v := 0) hx hb dX0_worthBehind_34 (by decide) ?_
        refine lv_istore (lv' := [(5, .int (0)), (4, .int (nI i)), (3, .int (bWb S i R r k)), (0, .ref (a 13)), (1, .int (nI r)), (2, .int (nI k))]) hx hb dX0_worthBehind_35 hl (by decide) rfl (fun ls hl => ?_)
        refine lv_iload hx hb dX0_worthBehind_37 (lv_at hl 0 rfl) ?_
        refine lv_if_eq (tgt := 51) hx hb dX0_worthBehind_39 (by decide) (fun c4 => ?_) (fun c4 => ?_)
        · refine lv_aload_n hx hb dX0_worthBehind_51 rfl (lv_at hl 3 rfl) ?_
          refine lv_iload hx hb dX0_worthBehind_52 (lv_at hl 1 rfl) ?_
          refine lv_iload_n hx hb dX0_worthBehind_54 rfl (lv_at hl 5 rfl) ?_
          refine k_X0_priceBehind hC (c_X0_priceBehind l D cI cQ a S hI (t := i) (k := k) (by omega)) hB rfl ⟨rfl, rfl⟩ ⟨Nat.le_of_ble_eq_true rfl, Nat.le_of_ble_eq_true rfl⟩ ⟨Nat.zero_le _, Nat.zero_le _⟩ hl.1 rfl (Nat.le_of_ble_eq_true rfl) dX0_worthBehind_55 ?_
          refine lv_istore (lv' := [(6, .int (bPb S R i k)), (5, .int (0)), (4, .int (nI i)), (3, .int (bWb S i R r k)), (0, .ref (a 13)), (1, .int (nI r)), (2, .int (nI k))]) hx hb dX0_worthBehind_58 hl (by decide) rfl (fun ls hl => ?_)
          refine lv_iload_n hx hb dX0_worthBehind_60 rfl (lv_at hl 3 rfl) ?_
          refine lv_iload hx hb dX0_worthBehind_61 (lv_at hl 0 rfl) ?_
          refine lv_aload_n hx hb dX0_worthBehind_63 rfl (lv_at hl 4 rfl) ?_
          refine gB_held hC hB dX0_worthBehind_64 ?_
          refine lv_iload_n hx hb dX0_worthBehind_67 rfl (lv_at hl 5 rfl) ?_
          refine lB_row (r) hC hB rfl (by omega) dX0_worthBehind_68 ?_
          refine lv_iload hx hb dX0_worthBehind_69 (lv_at hl 2 rfl) ?_
          refine lB_held (r) (i) hC hB (by omega) rfl (by omega) rfl dX0_worthBehind_71 ?_
          refine lv_imul hx hb dX0_worthBehind_72 ?_
          refine lv_iadd hx hb dX0_worthBehind_73 ?_
          refine lv_istore_n (lv' := [(3, .int ((bWb S i R r k) + ((bPb S R i k) * (S (7 + r) i)))), (6, .int (bPb S R i k)), (5, .int (0)), (4, .int (nI i)), (0, .ref (a 13)), (1, .int (nI r)), (2, .int (nI k))]) hx hb dX0_worthBehind_74 rfl hl (by decide) rfl (fun ls hl => ?_)
          refine lv_iinc (v := nI (i + 1)) (lv' := [(4, .int (nI (i + 1))), (3, .int ((bWb S i R r k) + ((bPb S R i k) * (S (7 + r) i)))), (6, .int (bPb S R i k)), (5, .int (0)), (0, .ref (a 13)), (1, .int (nI r)), (2, .int (nI k))]) hx hb dX0_worthBehind_75 hl (k := 3) rfl (ninc i) (by decide) rfl (fun ls hl => ?_)
          refine lv_goto (tgt := 10) hx hb dX0_worthBehind_78 (by decide) ?_
          have e5 : bWb S (i + 1) R r k = (bWb S i R r k) + ((bPb S R i k) * (S (7 + r) i)) := by show _ + (if _ then _ else _) * _ = _; rw [if_pos c3]; rfl
          exact ih ls (by rw [e5]; exact lv_sub hl [0, 1, 4, 5, 6] rfl)
        · exfalso; revert c4; decide
      · refine lv_iconst (v := 1) hx hb dX0_worthBehind_30 (by decide) ?_
        refine lv_goto (tgt := 35) hx hb dX0_worthBehind_31 (by decide) ?_
        refine lv_istore (lv' := [(5, .int (1)), (4, .int (nI i)), (3, .int (bWb S i R r k)), (0, .ref (a 13)), (1, .int (nI r)), (2, .int (nI k))]) hx hb dX0_worthBehind_35 hl (by decide) rfl (fun ls hl => ?_)
        refine lv_iload hx hb dX0_worthBehind_37 (lv_at hl 0 rfl) ?_
        refine lv_if_eq (tgt := 51) hx hb dX0_worthBehind_39 (by decide) (fun c6 => ?_) (fun c6 => ?_)
        · exfalso; revert c6; decide
        · refine lv_aload_n hx hb dX0_worthBehind_42 rfl (lv_at hl 3 rfl) ?_
          refine lv_iload hx hb dX0_worthBehind_43 (lv_at hl 1 rfl) ?_
          refine k_X0_closing hC (c_X0_closing l D cI cQ a S hI (t := i) (by omega)) hB rfl ⟨rfl, rfl⟩ ⟨Nat.le_of_ble_eq_true rfl, Nat.le_of_ble_eq_true rfl⟩ ⟨Nat.zero_le _, Nat.zero_le _⟩ hl.1 rfl (Nat.le_of_ble_eq_true rfl) dX0_worthBehind_45 ?_
          refine lv_goto (tgt := 58) hx hb dX0_worthBehind_48 (by decide) ?_
          refine lv_istore (lv' := [(6, .int (bCl S R i)), (5, .int (1)), (4, .int (nI i)), (3, .int (bWb S i R r k)), (0, .ref (a 13)), (1, .int (nI r)), (2, .int (nI k))]) hx hb dX0_worthBehind_58 hl (by decide) rfl (fun ls hl => ?_)
          refine lv_iload_n hx hb dX0_worthBehind_60 rfl (lv_at hl 3 rfl) ?_
          refine lv_iload hx hb dX0_worthBehind_61 (lv_at hl 0 rfl) ?_
          refine lv_aload_n hx hb dX0_worthBehind_63 rfl (lv_at hl 4 rfl) ?_
          refine gB_held hC hB dX0_worthBehind_64 ?_
          refine lv_iload_n hx hb dX0_worthBehind_67 rfl (lv_at hl 5 rfl) ?_
          refine lB_row (r) hC hB rfl (by omega) dX0_worthBehind_68 ?_
          refine lv_iload hx hb dX0_worthBehind_69 (lv_at hl 2 rfl) ?_
          refine lB_held (r) (i) hC hB (by omega) rfl (by omega) rfl dX0_worthBehind_71 ?_
          refine lv_imul hx hb dX0_worthBehind_72 ?_
          refine lv_iadd hx hb dX0_worthBehind_73 ?_
          refine lv_istore_n (lv' := [(3, .int ((bWb S i R r k) + ((bCl S R i) * (S (7 + r) i)))), (6, .int (bCl S R i)), (5, .int (1)), (4, .int (nI i)), (0, .ref (a 13)), (1, .int (nI r)), (2, .int (nI k))]) hx hb dX0_worthBehind_74 rfl hl (by decide) rfl (fun ls hl => ?_)
          refine lv_iinc (v := nI (i + 1)) (lv' := [(4, .int (nI (i + 1))), (3, .int ((bWb S i R r k) + ((bCl S R i) * (S (7 + r) i)))), (6, .int (bCl S R i)), (5, .int (1)), (0, .ref (a 13)), (1, .int (nI r)), (2, .int (nI k))]) hx hb dX0_worthBehind_75 hl (k := 3) rfl (ninc i) (by decide) rfl (fun ls hl => ?_)
          refine lv_goto (tgt := 10) hx hb dX0_worthBehind_78 (by decide) ?_
          have e7 : bWb S (i + 1) R r k = (bWb S i R r k) + ((bCl S R i) * (S (7 + r) i)) := by show _ + (if _ then _ else _) * _ = _; rw [if_neg c3]; rfl
          exact ih ls (by rw [e7]; exact lv_sub hl [0, 1, 4, 5, 6] rfl)

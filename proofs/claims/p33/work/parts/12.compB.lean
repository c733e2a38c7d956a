set_option maxHeartbeats 4000000 in
set_option maxRecDepth 100000 in
theorem c_X0_requireTower (l : Launch) (D : va_G) (cI cQ : ClassId) (a : Nat → Nat) (S : bS) {T R : Nat} {t : Nat} (hI : BI S T R) (ht : t < T) : Rn l yX0_requireTower cX0_requireTower 2 none ({ frames := 0, cells := 0, slots := 0, locals := 0 } : Room) (BW D cI cQ a S) [.ref (a 13), .int (nI t)] := by
  refine Rn.of (by decide) (Nat.le_of_ble_eq_true rfl) ?_
  intro p e s m args below meth c ls hC hr hlocks hB hl
  have hx := hC.1
  have hb := hC.2.1
  obtain ⟨hT, hR, hT8, hR6⟩ := id hI
  have hl : lv_has ls 2 [(0, .ref (a 13)), (1, .int (nI t))] := hl
  refine lv_iload_n hx hb dX0_requireTower_0 rfl (lv_at hl 1 rfl) ?_
  refine lv_if_lt (tgt := 12) hx hb dX0_requireTower_1 (by decide) (fun c1 => ?_) (fun c1 => ?_)
  · exfalso; exact absurd c1 (nI_pos (by omega))
  · refine lv_iload_n hx hb dX0_requireTower_4 rfl (lv_at hl 1 rfl) ?_
    refine lv_aload_n hx hb dX0_requireTower_5 rfl (lv_at hl 0 rfl) ?_
    refine gB_towerCount hC hB hT dX0_requireTower_6 ?_
    refine jlt (i := t) (j := T) (tgt := 22) hC dX0_requireTower_9 (by decide) rfl rfl (by omega) (by omega) (fun c2 => ?_) (fun c2 => ?_)
    · exact rd_v hC hr hlocks dX0_requireTower_22
    · exfalso; omega
set_option maxHeartbeats 4000000 in
set_option maxRecDepth 100000 in
theorem c_X0_requireTrader (l : Launch) (D : va_G) (cI cQ : ClassId) (a : Nat → Nat) (S : bS) {T R : Nat} {r : Nat} (hI : BI S T R) (hr9 : r < R) : Rn l yX0_requireTrader cX0_requireTrader 2 none ({ frames := 0, cells := 0, slots := 0, locals := 0 } : Room) (BW D cI cQ a S) [.ref (a 13), .int (nI r)] := by
  refine Rn.of (by decide) (Nat.le_of_ble_eq_true rfl) ?_
  intro p e s m args below meth c ls hC hr hlocks hB hl
  have hx := hC.1
  have hb := hC.2.1
  obtain ⟨hT, hR, hT8, hR6⟩ := id hI
  have hl : lv_has ls 2 [(0, .ref (a 13)), (1, .int (nI r))] := hl
  refine lv_iload_n hx hb dX0_requireTrader_0 rfl (lv_at hl 1 rfl) ?_
  refine lv_if_lt (tgt := 12) hx hb dX0_requireTrader_1 (by decide) (fun c1 => ?_) (fun c1 => ?_)
  · exfalso; exact absurd c1 (nI_pos (by omega))
  · refine lv_iload_n hx hb dX0_requireTrader_4 rfl (lv_at hl 1 rfl) ?_
    refine lv_aload_n hx hb dX0_requireTrader_5 rfl (lv_at hl 0 rfl) ?_
    refine gB_traderCount hC hB hR dX0_requireTrader_6 ?_
    refine jlt (i := r) (j := R) (tgt := 22) hC dX0_requireTrader_9 (by decide) rfl rfl (by omega) (by omega) (fun c2 => ?_) (fun c2 => ?_)
    · exact rd_v hC hr hlocks dX0_requireTrader_22
    · exfalso; omega
set_option maxHeartbeats 4000000 in
set_option maxRecDepth 100000 in
theorem c_X0_requireTradable (l : Launch) {k : Nat} (hk1 : 1 ≤ k) (hk9 : k ≤ 9) : Rn l yX0_requireTradable cX0_requireTradable 1 none ({ frames := 0, cells := 0, slots := 0, locals := 0 } : Room) (fun _ _ => True) [.int (nI k)] := by
  refine Rn.of (by decide) (Nat.le_of_ble_eq_true rfl) ?_
  intro p e s m args below meth c ls hC hr hlocks hB hl
  have hx := hC.1
  have hb := hC.2.1
  have hl : lv_has ls 1 [(0, .int (nI k))] := hl
  refine lv_iload_n hx hb dX0_requireTradable_0 rfl (lv_at hl 0 rfl) ?_
  refine lv_iconst (v := 1) hx hb dX0_requireTradable_1 (by decide) ?_
  refine jlt (i := k) (j := 1) (tgt := 11) hC dX0_requireTradable_2 (by decide) rfl rfl (by omega) (by omega) (fun c1 => ?_) (fun c1 => ?_)
  · exfalso; omega
  · refine lv_iload_n hx hb dX0_requireTradable_5 rfl (lv_at hl 0 rfl) ?_
    refine lv_bipush (v := 9) hx hb dX0_requireTradable_6 (by decide) ?_
    refine jle (i := k) (j := 9) (tgt := 21) hC dX0_requireTradable_8 (by decide) rfl rfl (by omega) (by omega) (fun c2 => ?_) (fun c2 => ?_)
    · exact rd_v hC hr hlocks dX0_requireTradable_21
    · exfalso; omega
set_option maxHeartbeats 4000000 in
set_option maxRecDepth 100000 in
theorem c_X0_requirePassable (l : Launch) {k : Nat} (hk1 : 1 ≤ k) (hk9 : k ≤ 60) : Rn l yX0_requirePassable cX0_requirePassable 1 none ({ frames := 0, cells := 0, slots := 0, locals := 0 } : Room) (fun _ _ => True) [.int (nI k)] := by
  refine Rn.of (by decide) (Nat.le_of_ble_eq_true rfl) ?_
  intro p e s m args below meth c ls hC hr hlocks hB hl
  have hx := hC.1
  have hb := hC.2.1
  have hl : lv_has ls 1 [(0, .int (nI k))] := hl
  refine lv_iload_n hx hb dX0_requirePassable_0 rfl (lv_at hl 0 rfl) ?_
  refine lv_iconst (v := 1) hx hb dX0_requirePassable_1 (by decide) ?_
  refine jlt (i := k) (j := 1) (tgt := 11) hC dX0_requirePassable_2 (by decide) rfl rfl (by omega) (by omega) (fun c1 => ?_) (fun c1 => ?_)
  · exfalso; omega
  · refine lv_iload_n hx hb dX0_requirePassable_5 rfl (lv_at hl 0 rfl) ?_
    refine lv_bipush (v := 60) hx hb dX0_requirePassable_6 (by decide) ?_
    refine jle (i := k) (j := 60) (tgt := 21) hC dX0_requirePassable_8 (by decide) rfl rfl (by omega) (by omega) (fun c2 => ?_) (fun c2 => ?_)
    · exact rd_v hC hr hlocks dX0_requirePassable_21
    · exfalso; omega
set_option maxHeartbeats 4000000 in
set_option maxRecDepth 100000 in
theorem c_X0_second (l : Launch) (D : va_G) (cI cQ : ClassId) (a : Nat → Nat) (S : bS) {T R : Nat} (hI : BI S T R) : Rd l yX0_second cX0_second 1 (some .int) ({ frames := 0, cells := 0, slots := 0, locals := 0 } : Room) (BW D cI cQ a S) [.ref (a 13)] (.int (S 6 0)) := by
  refine Rd.of (by decide) (Nat.le_of_ble_eq_true rfl) ?_
  intro p e s m args below meth c ls hC hr hlocks hB hl
  have hx := hC.1
  have hb := hC.2.1
  obtain ⟨hT, hR, hT8, hR6⟩ := id hI
  have hl : lv_has ls 1 [(0, .ref (a 13))] := hl
  refine lv_aload_n hx hb dX0_second_0 rfl (lv_at hl 0 rfl) ?_
  refine gB_second hC hB rfl dX0_second_1 ?_
  exact rd_i hC hr hlocks dX0_second_4 (by rfl)
set_option maxHeartbeats 4000000 in
set_option maxRecDepth 100000 in
theorem c_X0_towers (l : Launch) (D : va_G) (cI cQ : ClassId) (a : Nat → Nat) (S : bS) {T R : Nat} (hI : BI S T R) : Rd l yX0_towers cX0_towers 1 (some .int) ({ frames := 0, cells := 0, slots := 0, locals := 0 } : Room) (BW D cI cQ a S) [.ref (a 13)] (.int (nI T)) := by
  refine Rd.of (by decide) (Nat.le_of_ble_eq_true rfl) ?_
  intro p e s m args below meth c ls hC hr hlocks hB hl
  have hx := hC.1
  have hb := hC.2.1
  obtain ⟨hT, hR, hT8, hR6⟩ := id hI
  have hl : lv_has ls 1 [(0, .ref (a 13))] := hl
  refine lv_aload_n hx hb dX0_towers_0 rfl (lv_at hl 0 rfl) ?_
  refine gB_towerCount hC hB hT dX0_towers_1 ?_
  exact rd_i hC hr hlocks dX0_towers_4 (by rfl)
set_option maxHeartbeats 4000000 in
set_option maxRecDepth 100000 in
theorem c_X0_traders (l : Launch) (D : va_G) (cI cQ : ClassId) (a : Nat → Nat) (S : bS) {T R : Nat} (hI : BI S T R) : Rd l yX0_traders cX0_traders 1 (some .int) ({ frames := 0, cells := 0, slots := 0, locals := 0 } : Room) (BW D cI cQ a S) [.ref (a 13)] (.int (nI R)) := by
  refine Rd.of (by decide) (Nat.le_of_ble_eq_true rfl) ?_
  intro p e s m args below meth c ls hC hr hlocks hB hl
  have hx := hC.1
  have hb := hC.2.1
  obtain ⟨hT, hR, hT8, hR6⟩ := id hI
  have hl : lv_has ls 1 [(0, .ref (a 13))] := hl
  refine lv_aload_n hx hb dX0_traders_0 rfl (lv_at hl 0 rfl) ?_
  refine gB_traderCount hC hB hR dX0_traders_1 ?_
  exact rd_i hC hr hlocks dX0_traders_4 (by rfl)
set_option maxHeartbeats 4000000 in
set_option maxRecDepth 100000 in
theorem c_X0_silenceOf (l : Launch) (D : va_G) (cI cQ : ClassId) (a : Nat → Nat) (S : bS) {T R : Nat} {t : Nat} (hI : BI S T R) (ht : t < T) : Rd l yX0_silenceOf cX0_silenceOf 2 (some .int) ({ frames := 1, cells := 0, slots := 0, locals := 21 } : Room) (BW D cI cQ a S) [.ref (a 13), .int (nI t)] (.int (S 2 t)) := by
  refine Rd.of (by decide) (Nat.le_of_ble_eq_true rfl) ?_
  intro p e s m args below meth c ls hC hr hlocks hB hl
  have hx := hC.1
  have hb := hC.2.1
  obtain ⟨hT, hR, hT8, hR6⟩ := id hI
  have hl : lv_has ls 2 [(0, .ref (a 13)), (1, .int (nI t))] := hl
  refine lv_aload_n hx hb dX0_silenceOf_0 rfl (lv_at hl 0 rfl) ?_
  refine lv_iload_n hx hb dX0_silenceOf_1 rfl (lv_at hl 1 rfl) ?_
  refine kn_X0_requireTower hC (c_X0_requireTower l D cI cQ a S hI (t := t) (by omega)) hB rfl ⟨rfl, rfl⟩ ⟨Nat.le_of_ble_eq_true rfl, Nat.le_of_ble_eq_true rfl⟩ ⟨Nat.zero_le _, Nat.zero_le _⟩ hl.1 rfl (Nat.le_of_ble_eq_true rfl) dX0_silenceOf_2 ?_
  refine lv_aload_n hx hb dX0_silenceOf_5 rfl (lv_at hl 0 rfl) ?_
  refine gB_silence hC hB dX0_silenceOf_6 ?_
  refine lv_iload_n hx hb dX0_silenceOf_9 rfl (lv_at hl 1 rfl) ?_
  refine lB_silence (t) hC hB rfl (by omega) rfl dX0_silenceOf_10 ?_
  exact rd_i hC hr hlocks dX0_silenceOf_11 (by rfl)
set_option maxHeartbeats 4000000 in
set_option maxRecDepth 100000 in
theorem c_X0_dovesOn (l : Launch) (D : va_G) (cI cQ : ClassId) (a : Nat → Nat) (S : bS) {T R : Nat} {t : Nat} (hI : BI S T R) (ht : t < T) : Rd l yX0_dovesOn cX0_dovesOn 2 (some .int) ({ frames := 3, cells := 0, slots := 0, locals := 67 } : Room) (BW D cI cQ a S) [.ref (a 13), .int (nI t)] (.int (bDv S R t)) := by
  refine Rd.of (by decide) (Nat.le_of_ble_eq_true rfl) ?_
  intro p e s m args below meth c ls hC hr hlocks hB hl
  have hx := hC.1
  have hb := hC.2.1
  obtain ⟨hT, hR, hT8, hR6⟩ := id hI
  have hl : lv_has ls 2 [(0, .ref (a 13)), (1, .int (nI t))] := hl
  refine lv_aload_n hx hb dX0_dovesOn_0 rfl (lv_at hl 0 rfl) ?_
  refine lv_iload_n hx hb dX0_dovesOn_1 rfl (lv_at hl 1 rfl) ?_
  refine kn_X0_requireTower hC (c_X0_requireTower l D cI cQ a S hI (t := t) (by omega)) hB rfl ⟨rfl, rfl⟩ ⟨Nat.le_of_ble_eq_true rfl, Nat.le_of_ble_eq_true rfl⟩ ⟨Nat.zero_le _, Nat.zero_le _⟩ hl.1 rfl (Nat.le_of_ble_eq_true rfl) dX0_dovesOn_2 ?_
  refine lv_aload_n hx hb dX0_dovesOn_5 rfl (lv_at hl 0 rfl) ?_
  refine lv_iload_n hx hb dX0_dovesOn_6 rfl (lv_at hl 1 rfl) ?_
  refine k_X0_dovesNow hC (c_X0_dovesNow l D cI cQ a S hI (t := t) (by omega)) hB rfl ⟨rfl, rfl⟩ ⟨Nat.le_of_ble_eq_true rfl, Nat.le_of_ble_eq_true rfl⟩ ⟨Nat.zero_le _, Nat.zero_le _⟩ hl.1 rfl (Nat.le_of_ble_eq_true rfl) dX0_dovesOn_7 ?_
  exact rd_i hC hr hlocks dX0_dovesOn_10 (by rfl)
set_option maxHeartbeats 4000000 in
set_option maxRecDepth 100000 in
theorem c_X0_priceOf (l : Launch) (D : va_G) (cI cQ : ClassId) (a : Nat → Nat) (S : bS) {T R : Nat} {t : Nat} (hI : BI S T R) (ht : t < T) : Rd l yX0_priceOf cX0_priceOf 2 (some .int) ({ frames := 4, cells := 0, slots := 0, locals := 88 } : Room) (BW D cI cQ a S) [.ref (a 13), .int (nI t)] (.int (bPr S R t)) := by
  refine Rd.of (by decide) (Nat.le_of_ble_eq_true rfl) ?_
  intro p e s m args below meth c ls hC hr hlocks hB hl
  have hx := hC.1
  have hb := hC.2.1
  obtain ⟨hT, hR, hT8, hR6⟩ := id hI
  have hl : lv_has ls 2 [(0, .ref (a 13)), (1, .int (nI t))] := hl
  refine lv_aload_n hx hb dX0_priceOf_0 rfl (lv_at hl 0 rfl) ?_
  refine lv_iload_n hx hb dX0_priceOf_1 rfl (lv_at hl 1 rfl) ?_
  refine kn_X0_requireTower hC (c_X0_requireTower l D cI cQ a S hI (t := t) (by omega)) hB rfl ⟨rfl, rfl⟩ ⟨Nat.le_of_ble_eq_true rfl, Nat.le_of_ble_eq_true rfl⟩ ⟨Nat.zero_le _, Nat.zero_le _⟩ hl.1 rfl (Nat.le_of_ble_eq_true rfl) dX0_priceOf_2 ?_
  refine lv_aload_n hx hb dX0_priceOf_5 rfl (lv_at hl 0 rfl) ?_
  refine lv_iload_n hx hb dX0_priceOf_6 rfl (lv_at hl 1 rfl) ?_
  refine k_X0_priceNow hC (c_X0_priceNow l D cI cQ a S hI (t := t) (by omega)) hB rfl ⟨rfl, rfl⟩ ⟨Nat.le_of_ble_eq_true rfl, Nat.le_of_ble_eq_true rfl⟩ ⟨Nat.zero_le _, Nat.zero_le _⟩ hl.1 rfl (Nat.le_of_ble_eq_true rfl) dX0_priceOf_7 ?_
  exact rd_i hC hr hlocks dX0_priceOf_10 (by rfl)
set_option maxHeartbeats 4000000 in
set_option maxRecDepth 100000 in
theorem c_X0_secondsUntilStroke (l : Launch) (D : va_G) (cI cQ : ClassId) (a : Nat → Nat) (S : bS) {T R : Nat} {t : Nat} (hI : BI S T R) (ht : t < T) : Rd l yX0_secondsUntilStroke cX0_secondsUntilStroke 2 (some .int) ({ frames := 1, cells := 0, slots := 0, locals := 21 } : Room) (BW D cI cQ a S) [.ref (a 13), .int (nI t)] (.int (S 3 t)) := by
  refine Rd.of (by decide) (Nat.le_of_ble_eq_true rfl) ?_
  intro p e s m args below meth c ls hC hr hlocks hB hl
  have hx := hC.1
  have hb := hC.2.1
  obtain ⟨hT, hR, hT8, hR6⟩ := id hI
  have hl : lv_has ls 2 [(0, .ref (a 13)), (1, .int (nI t))] := hl
  refine lv_aload_n hx hb dX0_secondsUntilStroke_0 rfl (lv_at hl 0 rfl) ?_
  refine lv_iload_n hx hb dX0_secondsUntilStroke_1 rfl (lv_at hl 1 rfl) ?_
  refine kn_X0_requireTower hC (c_X0_requireTower l D cI cQ a S hI (t := t) (by omega)) hB rfl ⟨rfl, rfl⟩ ⟨Nat.le_of_ble_eq_true rfl, Nat.le_of_ble_eq_true rfl⟩ ⟨Nat.zero_le _, Nat.zero_le _⟩ hl.1 rfl (Nat.le_of_ble_eq_true rfl) dX0_secondsUntilStroke_2 ?_
  refine lv_aload_n hx hb dX0_secondsUntilStroke_5 rfl (lv_at hl 0 rfl) ?_
  refine gB_untilStroke hC hB dX0_secondsUntilStroke_6 ?_
  refine lv_iload_n hx hb dX0_secondsUntilStroke_9 rfl (lv_at hl 1 rfl) ?_
  refine lB_untilStroke (t) hC hB rfl (by omega) rfl dX0_secondsUntilStroke_10 ?_
  exact rd_i hC hr hlocks dX0_secondsUntilStroke_11 (by rfl)
set_option maxHeartbeats 4000000 in
set_option maxRecDepth 100000 in
theorem c_X0_strokesOf (l : Launch) (D : va_G) (cI cQ : ClassId) (a : Nat → Nat) (S : bS) {T R : Nat} {t : Nat} (hI : BI S T R) (ht : t < T) : Rd l yX0_strokesOf cX0_strokesOf 2 (some .int) ({ frames := 1, cells := 0, slots := 0, locals := 21 } : Room) (BW D cI cQ a S) [.ref (a 13), .int (nI t)] (.int (S 4 t)) := by
  refine Rd.of (by decide) (Nat.le_of_ble_eq_true rfl) ?_
  intro p e s m args below meth c ls hC hr hlocks hB hl
  have hx := hC.1
  have hb := hC.2.1
  obtain ⟨hT, hR, hT8, hR6⟩ := id hI
  have hl : lv_has ls 2 [(0, .ref (a 13)), (1, .int (nI t))] := hl
  refine lv_aload_n hx hb dX0_strokesOf_0 rfl (lv_at hl 0 rfl) ?_
  refine lv_iload_n hx hb dX0_strokesOf_1 rfl (lv_at hl 1 rfl) ?_
  refine kn_X0_requireTower hC (c_X0_requireTower l D cI cQ a S hI (t := t) (by omega)) hB rfl ⟨rfl, rfl⟩ ⟨Nat.le_of_ble_eq_true rfl, Nat.le_of_ble_eq_true rfl⟩ ⟨Nat.zero_le _, Nat.zero_le _⟩ hl.1 rfl (Nat.le_of_ble_eq_true rfl) dX0_strokesOf_2 ?_
  refine lv_aload_n hx hb dX0_strokesOf_5 rfl (lv_at hl 0 rfl) ?_
  refine gB_strokes hC hB dX0_strokesOf_6 ?_
  refine lv_iload_n hx hb dX0_strokesOf_9 rfl (lv_at hl 1 rfl) ?_
  refine lB_strokes (t) hC hB rfl (by omega) rfl dX0_strokesOf_10 ?_
  exact rd_i hC hr hlocks dX0_strokesOf_11 (by rfl)
set_option maxHeartbeats 4000000 in
set_option maxRecDepth 100000 in
theorem c_X0_openSeconds (l : Launch) (D : va_G) (cI cQ : ClassId) (a : Nat → Nat) (S : bS) {T R : Nat} {t : Nat} (hI : BI S T R) (ht : t < T) : Rd l yX0_openSeconds cX0_openSeconds 2 (some .int) ({ frames := 1, cells := 0, slots := 0, locals := 23 } : Room) (BW D cI cQ a S) [.ref (a 13), .int (nI t)] (.int (bOp S R t)) := by
  refine Rd.of (by decide) (Nat.le_of_ble_eq_true rfl) ?_
  intro p e s m args below meth c ls hC hr hlocks hB hl
  have hx := hC.1
  have hb := hC.2.1
  obtain ⟨hT, hR, hT8, hR6⟩ := id hI
  have hl : lv_has ls 2 [(0, .ref (a 13)), (1, .int (nI t))] := hl
  refine lv_aload_n hx hb dX0_openSeconds_0 rfl (lv_at hl 0 rfl) ?_
  refine lv_iload_n hx hb dX0_openSeconds_1 rfl (lv_at hl 1 rfl) ?_
  refine kn_X0_requireTower hC (c_X0_requireTower l D cI cQ a S hI (t := t) (by omega)) hB rfl ⟨rfl, rfl⟩ ⟨Nat.le_of_ble_eq_true rfl, Nat.le_of_ble_eq_true rfl⟩ ⟨Nat.zero_le _, Nat.zero_le _⟩ hl.1 rfl (Nat.le_of_ble_eq_true rfl) dX0_openSeconds_2 ?_
  refine lv_aload_n hx hb dX0_openSeconds_5 rfl (lv_at hl 0 rfl) ?_
  refine lv_iload_n hx hb dX0_openSeconds_6 rfl (lv_at hl 1 rfl) ?_
  refine k_X0_heldByAll hC (c_X0_heldByAll l D cI cQ a S hI (t := t) (by omega)) hB rfl ⟨rfl, rfl⟩ ⟨Nat.le_of_ble_eq_true rfl, Nat.le_of_ble_eq_true rfl⟩ ⟨Nat.zero_le _, Nat.zero_le _⟩ hl.1 rfl (Nat.le_of_ble_eq_true rfl) dX0_openSeconds_7 ?_
  exact rd_i hC hr hlocks dX0_openSeconds_10 (by rfl)
set_option maxHeartbeats 4000000 in
set_option maxRecDepth 100000 in
theorem c_X0_closingPrice (l : Launch) (D : va_G) (cI cQ : ClassId) (a : Nat → Nat) (S : bS) {T R : Nat} {t : Nat} (hI : BI S T R) (ht : t < T) : Rd l yX0_closingPrice cX0_closingPrice 2 (some .int) ({ frames := 4, cells := 0, slots := 0, locals := 89 } : Room) (BW D cI cQ a S) [.ref (a 13), .int (nI t)] (.int (bCl S R t)) := by
  refine Rd.of (by decide) (Nat.le_of_ble_eq_true rfl) ?_
  intro p e s m args below meth c ls hC hr hlocks hB hl
  have hx := hC.1
  have hb := hC.2.1
  obtain ⟨hT, hR, hT8, hR6⟩ := id hI
  have hl : lv_has ls 2 [(0, .ref (a 13)), (1, .int (nI t))] := hl
  refine lv_aload_n hx hb dX0_closingPrice_0 rfl (lv_at hl 0 rfl) ?_
  refine lv_iload_n hx hb dX0_closingPrice_1 rfl (lv_at hl 1 rfl) ?_
  refine kn_X0_requireTower hC (c_X0_requireTower l D cI cQ a S hI (t := t) (by omega)) hB rfl ⟨rfl, rfl⟩ ⟨Nat.le_of_ble_eq_true rfl, Nat.le_of_ble_eq_true rfl⟩ ⟨Nat.zero_le _, Nat.zero_le _⟩ hl.1 rfl (Nat.le_of_ble_eq_true rfl) dX0_closingPrice_2 ?_
  refine lv_aload_n hx hb dX0_closingPrice_5 rfl (lv_at hl 0 rfl) ?_
  refine lv_iload_n hx hb dX0_closingPrice_6 rfl (lv_at hl 1 rfl) ?_
  refine k_X0_closing hC (c_X0_closing l D cI cQ a S hI (t := t) (by omega)) hB rfl ⟨rfl, rfl⟩ ⟨Nat.le_of_ble_eq_true rfl, Nat.le_of_ble_eq_true rfl⟩ ⟨Nat.zero_le _, Nat.zero_le _⟩ hl.1 rfl (Nat.le_of_ble_eq_true rfl) dX0_closingPrice_7 ?_
  exact rd_i hC hr hlocks dX0_closingPrice_10 (by rfl)
set_option maxHeartbeats 4000000 in
set_option maxRecDepth 100000 in
theorem c_X0_purseOf (l : Launch) (D : va_G) (cI cQ : ClassId) (a : Nat → Nat) (S : bS) {T R : Nat} {r : Nat} (hI : BI S T R) (hr9 : r < R) : Rd l yX0_purseOf cX0_purseOf 2 (some .int) ({ frames := 1, cells := 0, slots := 0, locals := 21 } : Room) (BW D cI cQ a S) [.ref (a 13), .int (nI r)] (.int (S 5 r)) := by
  refine Rd.of (by decide) (Nat.le_of_ble_eq_true rfl) ?_
  intro p e s m args below meth c ls hC hr hlocks hB hl
  have hx := hC.1
  have hb := hC.2.1
  obtain ⟨hT, hR, hT8, hR6⟩ := id hI
  have hl : lv_has ls 2 [(0, .ref (a 13)), (1, .int (nI r))] := hl
  refine lv_aload_n hx hb dX0_purseOf_0 rfl (lv_at hl 0 rfl) ?_
  refine lv_iload_n hx hb dX0_purseOf_1 rfl (lv_at hl 1 rfl) ?_
  refine kn_X0_requireTrader hC (c_X0_requireTrader l D cI cQ a S hI (r := r) (by omega)) hB rfl ⟨rfl, rfl⟩ ⟨Nat.le_of_ble_eq_true rfl, Nat.le_of_ble_eq_true rfl⟩ ⟨Nat.zero_le _, Nat.zero_le _⟩ hl.1 rfl (Nat.le_of_ble_eq_true rfl) dX0_purseOf_2 ?_
  refine lv_aload_n hx hb dX0_purseOf_5 rfl (lv_at hl 0 rfl) ?_
  refine gB_purse hC hB dX0_purseOf_6 ?_
  refine lv_iload_n hx hb dX0_purseOf_9 rfl (lv_at hl 1 rfl) ?_
  refine lB_purse (r) hC hB rfl (by omega) rfl dX0_purseOf_10 ?_
  exact rd_i hC hr hlocks dX0_purseOf_11 (by rfl)
set_option maxHeartbeats 4000000 in
set_option maxRecDepth 100000 in
theorem c_X0_worthOf (l : Launch) (D : va_G) (cI cQ : ClassId) (a : Nat → Nat) (S : bS) {T R : Nat} {r : Nat} (hI : BI S T R) (hr9 : r < R) : Rd l yX0_worthOf cX0_worthOf 2 (some .int) ({ frames := 5, cells := 0, slots := 0, locals := 118 } : Room) (BW D cI cQ a S) [.ref (a 13), .int (nI r)] (.int (bWb S T R r 0)) := by
  refine Rd.of (by decide) (Nat.le_of_ble_eq_true rfl) ?_
  intro p e s m args below meth c ls hC hr hlocks hB hl
  have hx := hC.1
  have hb := hC.2.1
  obtain ⟨hT, hR, hT8, hR6⟩ := id hI
  have hl : lv_has ls 2 [(0, .ref (a 13)), (1, .int (nI r))] := hl
  refine lv_aload_n hx hb dX0_worthOf_0 rfl (lv_at hl 0 rfl) ?_
  refine lv_iload_n hx hb dX0_worthOf_1 rfl (lv_at hl 1 rfl) ?_
  refine kn_X0_requireTrader hC (c_X0_requireTrader l D cI cQ a S hI (r := r) (by omega)) hB rfl ⟨rfl, rfl⟩ ⟨Nat.le_of_ble_eq_true rfl, Nat.le_of_ble_eq_true rfl⟩ ⟨Nat.zero_le _, Nat.zero_le _⟩ hl.1 rfl (Nat.le_of_ble_eq_true rfl) dX0_worthOf_2 ?_
  refine lv_aload_n hx hb dX0_worthOf_5 rfl (lv_at hl 0 rfl) ?_
  refine lv_iload_n hx hb dX0_worthOf_6 rfl (lv_at hl 1 rfl) ?_
  refine lv_iconst (v := 0) hx hb dX0_worthOf_7 (by decide) ?_
  refine k_X0_worthBehind hC (c_X0_worthBehind l D cI cQ a S hI (r := r) (k := 0) (by omega)) hB rfl ⟨rfl, rfl⟩ ⟨Nat.le_of_ble_eq_true rfl, Nat.le_of_ble_eq_true rfl⟩ ⟨Nat.zero_le _, Nat.zero_le _⟩ hl.1 rfl (Nat.le_of_ble_eq_true rfl) dX0_worthOf_8 ?_
  exact rd_i hC hr hlocks dX0_worthOf_11 (by rfl)
set_option maxHeartbeats 4000000 in
set_option maxRecDepth 100000 in
theorem c_X0_shortsOf (l : Launch) (D : va_G) (cI cQ : ClassId) (a : Nat → Nat) (S : bS) {T R : Nat} {r : Nat} (hI : BI S T R) (hr9 : r < R) : Rd l yX0_shortsOf cX0_shortsOf 2 (some .int) ({ frames := 1, cells := 0, slots := 0, locals := 23 } : Room) (BW D cI cQ a S) [.ref (a 13), .int (nI r)] (.int (bSh S T r)) := by
  refine Rd.of (by decide) (Nat.le_of_ble_eq_true rfl) ?_
  intro p e s m args below meth c ls hC hr hlocks hB hl
  have hx := hC.1
  have hb := hC.2.1
  obtain ⟨hT, hR, hT8, hR6⟩ := id hI
  have hl : lv_has ls 2 [(0, .ref (a 13)), (1, .int (nI r))] := hl
  refine lv_aload_n hx hb dX0_shortsOf_0 rfl (lv_at hl 0 rfl) ?_
  refine lv_iload_n hx hb dX0_shortsOf_1 rfl (lv_at hl 1 rfl) ?_
  refine kn_X0_requireTrader hC (c_X0_requireTrader l D cI cQ a S hI (r := r) (by omega)) hB rfl ⟨rfl, rfl⟩ ⟨Nat.le_of_ble_eq_true rfl, Nat.le_of_ble_eq_true rfl⟩ ⟨Nat.zero_le _, Nat.zero_le _⟩ hl.1 rfl (Nat.le_of_ble_eq_true rfl) dX0_shortsOf_2 ?_
  refine lv_aload_n hx hb dX0_shortsOf_5 rfl (lv_at hl 0 rfl) ?_
  refine lv_iload_n hx hb dX0_shortsOf_6 rfl (lv_at hl 1 rfl) ?_
  refine k_X0_shortTowers hC (c_X0_shortTowers l D cI cQ a S hI (r := r) (by omega)) hB rfl ⟨rfl, rfl⟩ ⟨Nat.le_of_ble_eq_true rfl, Nat.le_of_ble_eq_true rfl⟩ ⟨Nat.zero_le _, Nat.zero_le _⟩ hl.1 rfl (Nat.le_of_ble_eq_true rfl) dX0_shortsOf_7 ?_
  exact rd_i hC hr hlocks dX0_shortsOf_10 (by rfl)
set_option maxHeartbeats 4000000 in
set_option maxRecDepth 100000 in
theorem c_X0_holds (l : Launch) (D : va_G) (cI cQ : ClassId) (a : Nat → Nat) (S : bS) {T R : Nat} {r t : Nat} (hI : BI S T R) (hr9 : r < R) (ht : t < T) : Rd l yX0_holds cX0_holds 3 (some .int) ({ frames := 1, cells := 0, slots := 0, locals := 21 } : Room) (BW D cI cQ a S) [.ref (a 13), .int (nI r), .int (nI t)] (.int (S (7 + r) t)) := by
  refine Rd.of (by decide) (Nat.le_of_ble_eq_true rfl) ?_
  intro p e s m args below meth c ls hC hr hlocks hB hl
  have hx := hC.1
  have hb := hC.2.1
  obtain ⟨hT, hR, hT8, hR6⟩ := id hI
  have hl : lv_has ls 3 [(0, .ref (a 13)), (1, .int (nI r)), (2, .int (nI t))] := hl
  refine lv_aload_n hx hb dX0_holds_0 rfl (lv_at hl 0 rfl) ?_
  refine lv_iload_n hx hb dX0_holds_1 rfl (lv_at hl 1 rfl) ?_
  refine kn_X0_requireTrader hC (c_X0_requireTrader l D cI cQ a S hI (r := r) (by omega)) hB rfl ⟨rfl, rfl⟩ ⟨Nat.le_of_ble_eq_true rfl, Nat.le_of_ble_eq_true rfl⟩ ⟨Nat.zero_le _, Nat.zero_le _⟩ hl.1 rfl (Nat.le_of_ble_eq_true rfl) dX0_holds_2 ?_
  refine lv_aload_n hx hb dX0_holds_5 rfl (lv_at hl 0 rfl) ?_
  refine lv_iload_n hx hb dX0_holds_6 rfl (lv_at hl 2 rfl) ?_
  refine kn_X0_requireTower hC (c_X0_requireTower l D cI cQ a S hI (t := t) (by omega)) hB rfl ⟨rfl, rfl⟩ ⟨Nat.le_of_ble_eq_true rfl, Nat.le_of_ble_eq_true rfl⟩ ⟨Nat.zero_le _, Nat.zero_le _⟩ hl.1 rfl (Nat.le_of_ble_eq_true rfl) dX0_holds_7 ?_
  refine lv_aload_n hx hb dX0_holds_10 rfl (lv_at hl 0 rfl) ?_
  refine gB_held hC hB dX0_holds_11 ?_
  refine lv_iload_n hx hb dX0_holds_14 rfl (lv_at hl 1 rfl) ?_
  refine lB_row (r) hC hB rfl (by omega) dX0_holds_15 ?_
  refine lv_iload_n hx hb dX0_holds_16 rfl (lv_at hl 2 rfl) ?_
  refine lB_held (r) (t) hC hB (by omega) rfl (by omega) rfl dX0_holds_17 ?_
  exact rd_i hC hr hlocks dX0_holds_18 (by rfl)
set_option maxHeartbeats 4000000 in
set_option maxRecDepth 100000 in
theorem c_X0_dearest (l : Launch) (D : va_G) (cI cQ : ClassId) (a : Nat → Nat) (S : bS) {T R : Nat} (hI : BI S T R) : Rd l yX0_dearest cX0_dearest 3 (some .int) ({ frames := 4, cells := 0, slots := 0, locals := 88 } : Room) (BW D cI cQ a S) [.ref (a 13)] (.int (oI (bDe S T R))) := by
  refine Rd.of (by decide) (Nat.le_of_ble_eq_true rfl) ?_
  intro p e s m args below meth c ls hC hr hlocks hB hl
  have hx := hC.1
  have hb := hC.2.1
  obtain ⟨hT, hR, hT8, hR6⟩ := id hI
  have hl : lv_has ls 3 [(0, .ref (a 13))] := hl
  refine lv_iconst (v := -1) hx hb dX0_dearest_0 (by decide) ?_
  refine lv_istore_n (lv' := [(1, .int (-1)), (0, .ref (a 13))]) hx hb dX0_dearest_1 rfl hl (by decide) rfl (fun ls hl => ?_)
  refine lv_iconst (v := 0) hx hb dX0_dearest_2 (by decide) ?_
  refine lv_istore_n (lv' := [(2, .int (0)), (1, .int (-1)), (0, .ref (a 13))]) hx hb dX0_dearest_3 rfl hl (by decide) rfl (fun ls hl => ?_)
  refine loopU (P := fun i => ∀ ls : Array Slot, lv_has ls 3 [(2, .int (nI i)), (1, .int (oI (amx (bPr S R) i))), (0, .ref (a 13))] → W p l e ({ frames := 4, cells := 0, slots := 0, locals := 88 } : Room) s m args below meth c s.heap [] 0 0 (MQ below (k2_QcV (.int (oI (bDe S T R)))) args s 0 0 (fun _ => False)) (F0 m 4 ls [])) (T) ?_ ?_ 0 (by omega) ls (by first | exact lv_sub hl [0, 1, 2] rfl | (simpa using lv_sub hl [0, 1, 2] rfl))
  · intro ls hl
    refine lv_iload_n hx hb dX0_dearest_4 rfl (lv_at hl 0 rfl) ?_
    refine lv_aload_n hx hb dX0_dearest_5 rfl (lv_at hl 2 rfl) ?_
    refine gB_towerCount hC hB hT dX0_dearest_6 ?_
    refine jge (i := T) (j := T) (tgt := 37) hC dX0_dearest_9 (by decide) rfl rfl (by omega) (by omega) (fun c1 => ?_) (fun c1 => ?_)
    · refine lv_iload_n hx hb dX0_dearest_37 rfl (lv_at hl 1 rfl) ?_
      exact rd_i hC hr hlocks dX0_dearest_38 (by rfl)
    · exfalso; omega
  · intro i hi ih ls hl
    rcases hq : amx (bPr S R) i with _ | b9
    · rw [hq] at hl
      have hl : lv_has ls 3 [(2, .int (nI i)), (1, .int (-1)), (0, .ref (a 13))] := hl
      refine lv_iload_n hx hb dX0_dearest_4 rfl (lv_at hl 0 rfl) ?_
      refine lv_aload_n hx hb dX0_dearest_5 rfl (lv_at hl 2 rfl) ?_
      refine gB_towerCount hC hB hT dX0_dearest_6 ?_
      refine jge (i := i) (j := T) (tgt := 37) hC dX0_dearest_9 (by decide) rfl rfl (by omega) (by omega) (fun c2 => ?_) (fun c2 => ?_)
      · exfalso; omega
      · refine lv_iload_n hx hb dX0_dearest_12 rfl (lv_at hl 1 rfl) ?_
        refine lv_if_lt (tgt := 29) hx hb dX0_dearest_13 (by decide) (fun c3 => ?_) (fun c3 => ?_)
        · refine lv_iload_n hx hb dX0_dearest_29 rfl (lv_at hl 0 rfl) ?_
          refine lv_istore_n (lv' := [(1, .int (nI i)), (2, .int (nI i)), (0, .ref (a 13))]) hx hb dX0_dearest_30 rfl hl (by decide) rfl (fun ls hl => ?_)
          refine lv_iinc (v := nI (i + 1)) (lv' := [(2, .int (nI (i + 1))), (1, .int (nI i)), (0, .ref (a 13))]) hx hb dX0_dearest_31 hl (k := 1) rfl (ninc i) (by decide) rfl (fun ls hl => ?_)
          refine lv_goto (tgt := 4) hx hb dX0_dearest_34 (by decide) ?_
          have e4 : oI (amx (bPr S R) (i + 1)) = nI i := by rw [amx_none hq] <;> rfl
          exact ih ls (by rw [e4]; exact lv_sub hl [0, 1, 2] rfl)
        · exfalso; revert c3; decide
    · rw [hq] at hl
      have hl : lv_has ls 3 [(2, .int (nI i)), (1, .int (nI b9)), (0, .ref (a 13))] := hl
      have hb9 := amx_lt i hq
      refine lv_iload_n hx hb dX0_dearest_4 rfl (lv_at hl 0 rfl) ?_
      refine lv_aload_n hx hb dX0_dearest_5 rfl (lv_at hl 2 rfl) ?_
      refine gB_towerCount hC hB hT dX0_dearest_6 ?_
      refine jge (i := i) (j := T) (tgt := 37) hC dX0_dearest_9 (by decide) rfl rfl (by omega) (by omega) (fun c5 => ?_) (fun c5 => ?_)
      · exfalso; omega
      · refine lv_iload_n hx hb dX0_dearest_12 rfl (lv_at hl 1 rfl) ?_
        refine lv_if_lt (tgt := 29) hx hb dX0_dearest_13 (by decide) (fun c6 => ?_) (fun c6 => ?_)
        · exfalso; exact absurd c6 (nI_pos (by omega))
        · refine lv_aload_n hx hb dX0_dearest_16 rfl (lv_at hl 2 rfl) ?_
          refine lv_iload_n hx hb dX0_dearest_17 rfl (lv_at hl 0 rfl) ?_
          refine k_X0_priceNow hC (c_X0_priceNow l D cI cQ a S hI (t := i) (by omega)) hB rfl ⟨rfl, rfl⟩ ⟨Nat.le_of_ble_eq_true rfl, Nat.le_of_ble_eq_true rfl⟩ ⟨Nat.zero_le _, Nat.zero_le _⟩ hl.1 rfl (Nat.le_of_ble_eq_true rfl) dX0_dearest_18 ?_
          refine lv_aload_n hx hb dX0_dearest_21 rfl (lv_at hl 2 rfl) ?_
          refine lv_iload_n hx hb dX0_dearest_22 rfl (lv_at hl 1 rfl) ?_
          refine k_X0_priceNow hC (c_X0_priceNow l D cI cQ a S hI (t := b9) (by omega)) hB rfl ⟨rfl, rfl⟩ ⟨Nat.le_of_ble_eq_true rfl, Nat.le_of_ble_eq_true rfl⟩ ⟨Nat.zero_le _, Nat.zero_le _⟩ hl.1 rfl (Nat.le_of_ble_eq_true rfl) dX0_dearest_23 ?_
          refine lv_icmp_le (tgt := 31) hx hb dX0_dearest_26 (by decide) (fun c7 => ?_) (fun c7 => ?_)
          · refine lv_iinc (v := nI (i + 1)) (lv' := [(2, .int (nI (i + 1))), (1, .int (nI b9)), (0, .ref (a 13))]) hx hb dX0_dearest_31 hl (k := 0) rfl (ninc i) (by decide) rfl (fun ls hl => ?_)
            refine lv_goto (tgt := 4) hx hb dX0_dearest_34 (by decide) ?_
            have e8 : oI (amx (bPr S R) (i + 1)) = nI b9 := by rw [amx_keep hq c7] <;> rfl
            exact ih ls (by rw [e8]; exact lv_sub hl [0, 1, 2] rfl)
          · refine lv_iload_n hx hb dX0_dearest_29 rfl (lv_at hl 0 rfl) ?_
            refine lv_istore_n (lv' := [(1, .int (nI i)), (2, .int (nI i)), (0, .ref (a 13))]) hx hb dX0_dearest_30 rfl hl (by decide) rfl (fun ls hl => ?_)
            refine lv_iinc (v := nI (i + 1)) (lv' := [(2, .int (nI (i + 1))), (1, .int (nI i)), (0, .ref (a 13))]) hx hb dX0_dearest_31 hl (k := 1) rfl (ninc i) (by decide) rfl (fun ls hl => ?_)
            refine lv_goto (tgt := 4) hx hb dX0_dearest_34 (by decide) ?_
            have e9 : oI (amx (bPr S R) (i + 1)) = nI i := by rw [amx_new hq c7] <;> rfl
            exact ih ls (by rw [e9]; exact lv_sub hl [0, 1, 2] rfl)
set_option maxHeartbeats 4000000 in
set_option maxRecDepth 100000 in
theorem c_X0_nextToStrike (l : Launch) (D : va_G) (cI cQ : ClassId) (a : Nat → Nat) (S : bS) {T R : Nat} (hI : BI S T R) : Rd l yX0_nextToStrike cX0_nextToStrike 3 (some .int) ({ frames := 0, cells := 0, slots := 0, locals := 0 } : Room) (BW D cI cQ a S) [.ref (a 13)] (.int (oI (bNx S T))) := by
  refine Rd.of (by decide) (Nat.le_of_ble_eq_true rfl) ?_
  intro p e s m args below meth c ls hC hr hlocks hB hl
  have hx := hC.1
  have hb := hC.2.1
  obtain ⟨hT, hR, hT8, hR6⟩ := id hI
  have hl : lv_has ls 3 [(0, .ref (a 13))] := hl
  refine lv_iconst (v := -1) hx hb dX0_nextToStrike_0 (by decide) ?_
  refine lv_istore_n (lv' := [(1, .int (-1)), (0, .ref (a 13))]) hx hb dX0_nextToStrike_1 rfl hl (by decide) rfl (fun ls hl => ?_)
  refine lv_iconst (v := 0) hx hb dX0_nextToStrike_2 (by decide) ?_
  refine lv_istore_n (lv' := [(2, .int (0)), (1, .int (-1)), (0, .ref (a 13))]) hx hb dX0_nextToStrike_3 rfl hl (by decide) rfl (fun ls hl => ?_)
  refine loopU (P := fun i => ∀ ls : Array Slot, lv_has ls 3 [(2, .int (nI i)), (1, .int (oI (amn (S 3) i))), (0, .ref (a 13))] → W p l e ({ frames := 0, cells := 0, slots := 0, locals := 0 } : Room) s m args below meth c s.heap [] 0 0 (MQ below (k2_QcV (.int (oI (bNx S T)))) args s 0 0 (fun _ => False)) (F0 m 4 ls [])) (T) ?_ ?_ 0 (by omega) ls (by first | exact lv_sub hl [0, 1, 2] rfl | (simpa using lv_sub hl [0, 1, 2] rfl))
  · intro ls hl
    refine lv_iload_n hx hb dX0_nextToStrike_4 rfl (lv_at hl 0 rfl) ?_
    refine lv_aload_n hx hb dX0_nextToStrike_5 rfl (lv_at hl 2 rfl) ?_
    refine gB_towerCount hC hB hT dX0_nextToStrike_6 ?_
    refine jge (i := T) (j := T) (tgt := 39) hC dX0_nextToStrike_9 (by decide) rfl rfl (by omega) (by omega) (fun c1 => ?_) (fun c1 => ?_)
    · refine lv_iload_n hx hb dX0_nextToStrike_39 rfl (lv_at hl 1 rfl) ?_
      exact rd_i hC hr hlocks dX0_nextToStrike_40 (by rfl)
    · exfalso; omega
  · intro i hi ih ls hl
    rcases hq : amn (S 3) i with _ | b9
    · rw [hq] at hl
      have hl : lv_has ls 3 [(2, .int (nI i)), (1, .int (-1)), (0, .ref (a 13))] := hl
      refine lv_iload_n hx hb dX0_nextToStrike_4 rfl (lv_at hl 0 rfl) ?_
      refine lv_aload_n hx hb dX0_nextToStrike_5 rfl (lv_at hl 2 rfl) ?_
      refine gB_towerCount hC hB hT dX0_nextToStrike_6 ?_
      refine jge (i := i) (j := T) (tgt := 39) hC dX0_nextToStrike_9 (by decide) rfl rfl (by omega) (by omega) (fun c2 => ?_) (fun c2 => ?_)
      · exfalso; omega
      · refine lv_iload_n hx hb dX0_nextToStrike_12 rfl (lv_at hl 1 rfl) ?_
        refine lv_if_lt (tgt := 31) hx hb dX0_nextToStrike_13 (by decide) (fun c3 => ?_) (fun c3 => ?_)
        · refine lv_iload_n hx hb dX0_nextToStrike_31 rfl (lv_at hl 0 rfl) ?_
          refine lv_istore_n (lv' := [(1, .int (nI i)), (2, .int (nI i)), (0, .ref (a 13))]) hx hb dX0_nextToStrike_32 rfl hl (by decide) rfl (fun ls hl => ?_)
          refine lv_iinc (v := nI (i + 1)) (lv' := [(2, .int (nI (i + 1))), (1, .int (nI i)), (0, .ref (a 13))]) hx hb dX0_nextToStrike_33 hl (k := 1) rfl (ninc i) (by decide) rfl (fun ls hl => ?_)
          refine lv_goto (tgt := 4) hx hb dX0_nextToStrike_36 (by decide) ?_
          have e4 : oI (amn (S 3) (i + 1)) = nI i := by rw [amn_none hq] <;> rfl
          exact ih ls (by rw [e4]; exact lv_sub hl [0, 1, 2] rfl)
        · exfalso; revert c3; decide
    · rw [hq] at hl
      have hl : lv_has ls 3 [(2, .int (nI i)), (1, .int (nI b9)), (0, .ref (a 13))] := hl
      have hb9 := amn_lt i hq
      refine lv_iload_n hx hb dX0_nextToStrike_4 rfl (lv_at hl 0 rfl) ?_
      refine lv_aload_n hx hb dX0_nextToStrike_5 rfl (lv_at hl 2 rfl) ?_
      refine gB_towerCount hC hB hT dX0_nextToStrike_6 ?_
      refine jge (i := i) (j := T) (tgt := 39) hC dX0_nextToStrike_9 (by decide) rfl rfl (by omega) (by omega) (fun c5 => ?_) (fun c5 => ?_)
      · exfalso; omega
      · refine lv_iload_n hx hb dX0_nextToStrike_12 rfl (lv_at hl 1 rfl) ?_
        refine lv_if_lt (tgt := 31) hx hb dX0_nextToStrike_13 (by decide) (fun c6 => ?_) (fun c6 => ?_)
        · exfalso; exact absurd c6 (nI_pos (by omega))
        · refine lv_aload_n hx hb dX0_nextToStrike_16 rfl (lv_at hl 2 rfl) ?_
          refine gB_untilStroke hC hB dX0_nextToStrike_17 ?_
          refine lv_iload_n hx hb dX0_nextToStrike_20 rfl (lv_at hl 0 rfl) ?_
          refine lB_untilStroke (i) hC hB rfl (by omega) rfl dX0_nextToStrike_21 ?_
          refine lv_aload_n hx hb dX0_nextToStrike_22 rfl (lv_at hl 2 rfl) ?_
          refine gB_untilStroke hC hB dX0_nextToStrike_23 ?_
          refine lv_iload_n hx hb dX0_nextToStrike_26 rfl (lv_at hl 1 rfl) ?_
          refine lB_untilStroke (b9) hC hB rfl (by omega) rfl dX0_nextToStrike_27 ?_
          refine lv_icmp_ge (tgt := 33) hx hb dX0_nextToStrike_28 (by decide) (fun c7 => ?_) (fun c7 => ?_)
          · refine lv_iinc (v := nI (i + 1)) (lv' := [(2, .int (nI (i + 1))), (1, .int (nI b9)), (0, .ref (a 13))]) hx hb dX0_nextToStrike_33 hl (k := 0) rfl (ninc i) (by decide) rfl (fun ls hl => ?_)
            refine lv_goto (tgt := 4) hx hb dX0_nextToStrike_36 (by decide) ?_
            have e8 : oI (amn (S 3) (i + 1)) = nI b9 := by rw [amn_keep hq c7] <;> rfl
            exact ih ls (by rw [e8]; exact lv_sub hl [0, 1, 2] rfl)
          · refine lv_iload_n hx hb dX0_nextToStrike_31 rfl (lv_at hl 0 rfl) ?_
            refine lv_istore_n (lv' := [(1, .int (nI i)), (2, .int (nI i)), (0, .ref (a 13))]) hx hb dX0_nextToStrike_32 rfl hl (by decide) rfl (fun ls hl => ?_)
            refine lv_iinc (v := nI (i + 1)) (lv' := [(2, .int (nI (i + 1))), (1, .int (nI i)), (0, .ref (a 13))]) hx hb dX0_nextToStrike_33 hl (k := 1) rfl (ninc i) (by decide) rfl (fun ls hl => ?_)
            refine lv_goto (tgt := 4) hx hb dX0_nextToStrike_36 (by decide) ?_
            have e9 : oI (amn (S 3) (i + 1)) = nI i := by rw [amn_new hq c7] <;> rfl
            exact ih ls (by rw [e9]; exact lv_sub hl [0, 1, 2] rfl)
set_option maxHeartbeats 4000000 in
set_option maxRecDepth 100000 in
theorem c_X0_richest (l : Launch) (D : va_G) (cI cQ : ClassId) (a : Nat → Nat) (S : bS) {T R : Nat} (hI : BI S T R) : Rd l yX0_richest cX0_richest 3 (some .int) ({ frames := 5, cells := 0, slots := 0, locals := 118 } : Room) (BW D cI cQ a S) [.ref (a 13)] (.int (oI (bRc S T R))) := by
  refine Rd.of (by decide) (Nat.le_of_ble_eq_true rfl) ?_
  intro p e s m args below meth c ls hC hr hlocks hB hl
  have hx := hC.1
  have hb := hC.2.1
  obtain ⟨hT, hR, hT8, hR6⟩ := id hI
  have hl : lv_has ls 3 [(0, .ref (a 13))] := hl
  refine lv_iconst (v := -1) hx hb dX0_richest_0 (by decide) ?_
  refine lv_istore_n (lv' := [(1, .int (-1)), (0, .ref (a 13))]) hx hb dX0_richest_1 rfl hl (by decide) rfl (fun ls hl => ?_)
  refine lv_iconst (v := 0) hx hb dX0_richest_2 (by decide) ?_
  refine lv_istore_n (lv' := [(2, .int (0)), (1, .int (-1)), (0, .ref (a 13))]) hx hb dX0_richest_3 rfl hl (by decide) rfl (fun ls hl => ?_)
  refine loopU (P := fun i => ∀ ls : Array Slot, lv_has ls 3 [(2, .int (nI i)), (1, .int (oI (amx (fun r => bWb S T R r 0) i))), (0, .ref (a 13))] → W p l e ({ frames := 5, cells := 0, slots := 0, locals := 118 } : Room) s m args below meth c s.heap [] 0 0 (MQ below (k2_QcV (.int (oI (bRc S T R)))) args s 0 0 (fun _ => False)) (F0 m 4 ls [])) (R) ?_ ?_ 0 (by omega) ls (by first | exact lv_sub hl [0, 1, 2] rfl | (simpa using lv_sub hl [0, 1, 2] rfl))
  · intro ls hl
    refine lv_iload_n hx hb dX0_richest_4 rfl (lv_at hl 0 rfl) ?_
    refine lv_aload_n hx hb dX0_richest_5 rfl (lv_at hl 2 rfl) ?_
    refine gB_traderCount hC hB hR dX0_richest_6 ?_
    refine jge (i := R) (j := R) (tgt := 39) hC dX0_richest_9 (by decide) rfl rfl (by omega) (by omega) (fun c1 => ?_) (fun c1 => ?_)
    · refine lv_iload_n hx hb dX0_richest_39 rfl (lv_at hl 1 rfl) ?_
      exact rd_i hC hr hlocks dX0_richest_40 (by rfl)
    · exfalso; omega
  · intro i hi ih ls hl
    rcases hq : amx (fun r => bWb S T R r 0) i with _ | b9
    · rw [hq] at hl
      have hl : lv_has ls 3 [(2, .int (nI i)), (1, .int (-1)), (0, .ref (a 13))] := hl
      refine lv_iload_n hx hb dX0_richest_4 rfl (lv_at hl 0 rfl) ?_
      refine lv_aload_n hx hb dX0_richest_5 rfl (lv_at hl 2 rfl) ?_
      refine gB_traderCount hC hB hR dX0_richest_6 ?_
      refine jge (i := i) (j := R) (tgt := 39) hC dX0_richest_9 (by decide) rfl rfl (by omega) (by omega) (fun c2 => ?_) (fun c2 => ?_)
      · exfalso; omega
      · refine lv_iload_n hx hb dX0_richest_12 rfl (lv_at hl 1 rfl) ?_
        refine lv_if_lt (tgt := 31) hx hb dX0_richest_13 (by decide) (fun c3 => ?_) (fun c3 => ?_)
        · refine lv_iload_n hx hb dX0_richest_31 rfl (lv_at hl 0 rfl) ?_
          refine lv_istore_n (lv' := [(1, .int (nI i)), (2, .int (nI i)), (0, .ref (a 13))]) hx hb dX0_richest_32 rfl hl (by decide) rfl (fun ls hl => ?_)
          refine lv_iinc (v := nI (i + 1)) (lv' := [(2, .int (nI (i + 1))), (1, .int (nI i)), (0, .ref (a 13))]) hx hb dX0_richest_33 hl (k := 1) rfl (ninc i) (by decide) rfl (fun ls hl => ?_)
          refine lv_goto (tgt := 4) hx hb dX0_richest_36 (by decide) ?_
          have e4 : oI (amx (fun r => bWb S T R r 0) (i + 1)) = nI i := by rw [amx_none hq] <;> rfl
          exact ih ls (by rw [e4]; exact lv_sub hl [0, 1, 2] rfl)
        · exfalso; revert c3; decide
    · rw [hq] at hl
      have hl : lv_has ls 3 [(2, .int (nI i)), (1, .int (nI b9)), (0, .ref (a 13))] := hl
      have hb9 := amx_lt i hq
      refine lv_iload_n hx hb dX0_richest_4 rfl (lv_at hl 0 rfl) ?_
      refine lv_aload_n hx hb dX0_richest_5 rfl (lv_at hl 2 rfl) ?_
      refine gB_traderCount hC hB hR dX0_richest_6 ?_
      refine jge (i := i) (j := R) (tgt := 39) hC dX0_richest_9 (by decide) rfl rfl (by omega) (by omega) (fun c5 => ?_) (fun c5 => ?_)
      · exfalso; omega
      · refine lv_iload_n hx hb dX0_richest_12 rfl (lv_at hl 1 rfl) ?_
        refine lv_if_lt (tgt := 31) hx hb dX0_richest_13 (by decide) (fun c6 => ?_) (fun c6 => ?_)
        · exfalso; exact absurd c6 (nI_pos (by omega))
        · refine lv_aload_n hx hb dX0_richest_16 rfl (lv_at hl 2 rfl) ?_
          refine lv_iload_n hx hb dX0_richest_17 rfl (lv_at hl 0 rfl) ?_
          refine lv_iconst (v := 0) hx hb dX0_richest_18 (by decide) ?_
          refine k_X0_worthBehind hC (c_X0_worthBehind l D cI cQ a S hI (r := i) (k := 0) (by omega)) hB rfl ⟨rfl, rfl⟩ ⟨Nat.le_of_ble_eq_true rfl, Nat.le_of_ble_eq_true rfl⟩ ⟨Nat.zero_le _, Nat.zero_le _⟩ hl.1 rfl (Nat.le_of_ble_eq_true rfl) dX0_richest_19 ?_
          refine lv_aload_n hx hb dX0_richest_22 rfl (lv_at hl 2 rfl) ?_
          refine lv_iload_n hx hb dX0_richest_23 rfl (lv_at hl 1 rfl) ?_
          refine lv_iconst (v := 0) hx hb dX0_richest_24 (by decide) ?_
          refine k_X0_worthBehind hC (c_X0_worthBehind l D cI cQ a S hI (r := b9) (k := 0) (by omega)) hB rfl ⟨rfl, rfl⟩ ⟨Nat.le_of_ble_eq_true rfl, Nat.le_of_ble_eq_true rfl⟩ ⟨Nat.zero_le _, Nat.zero_le _⟩ hl.1 rfl (Nat.le_of_ble_eq_true rfl) dX0_richest_25 ?_
          refine lv_icmp_le (tgt := 33) hx hb dX0_richest_28 (by decide) (fun c7 => ?_) (fun c7 => ?_)
          · refine lv_iinc (v := nI (i + 1)) (lv' := [(2, .int (nI (i + 1))), (1, .int (nI b9)), (0, .ref (a 13))]) hx hb dX0_richest_33 hl (k := 0) rfl (ninc i) (by decide) rfl (fun ls hl => ?_)
            refine lv_goto (tgt := 4) hx hb dX0_richest_36 (by decide) ?_
            have e8 : oI (amx (fun r => bWb S T R r 0) (i + 1)) = nI b9 := by rw [amx_keep hq c7] <;> rfl
            exact ih ls (by rw [e8]; exact lv_sub hl [0, 1, 2] rfl)
          · refine lv_iload_n hx hb dX0_richest_31 rfl (lv_at hl 0 rfl) ?_
            refine lv_istore_n (lv' := [(1, .int (nI i)), (2, .int (nI i)), (0, .ref (a 13))]) hx hb dX0_richest_32 rfl hl (by decide) rfl (fun ls hl => ?_)
            refine lv_iinc (v := nI (i + 1)) (lv' := [(2, .int (nI (i + 1))), (1, .int (nI i)), (0, .ref (a 13))]) hx hb dX0_richest_33 hl (k := 1) rfl (ninc i) (by decide) rfl (fun ls hl => ?_)
            refine lv_goto (tgt := 4) hx hb dX0_richest_36 (by decide) ?_
            have e9 : oI (amx (fun r => bWb S T R r 0) (i + 1)) = nI i := by rw [amx_new hq c7] <;> rfl
            exact ih ls (by rw [e9]; exact lv_sub hl [0, 1, 2] rfl)
set_option maxHeartbeats 4000000 in
set_option maxRecDepth 100000 in
theorem c_X0_inDebt (l : Launch) (D : va_G) (cI cQ : ClassId) (a : Nat → Nat) (S : bS) {T R : Nat} (hI : BI S T R) : Rd l yX0_inDebt cX0_inDebt 3 (some .int) ({ frames := 0, cells := 0, slots := 0, locals := 0 } : Room) (BW D cI cQ a S) [.ref (a 13)] (.int (bOw S R)) := by
  refine Rd.of (by decide) (Nat.le_of_ble_eq_true rfl) ?_
  intro p e s m args below meth c ls hC hr hlocks hB hl
  have hx := hC.1
  have hb := hC.2.1
  obtain ⟨hT, hR, hT8, hR6⟩ := id hI
  have hl : lv_has ls 3 [(0, .ref (a 13))] := hl
  refine lv_iconst (v := 0) hx hb dX0_inDebt_0 (by decide) ?_
  refine lv_istore_n (lv' := [(1, .int (0)), (0, .ref (a 13))]) hx hb dX0_inDebt_1 rfl hl (by decide) rfl (fun ls hl => ?_)
  refine lv_iconst (v := 0) hx hb dX0_inDebt_2 (by decide) ?_
  refine lv_istore_n (lv' := [(2, .int (0)), (1, .int (0)), (0, .ref (a 13))]) hx hb dX0_inDebt_3 rfl hl (by decide) rfl (fun ls hl => ?_)
  refine loopU (P := fun i => ∀ ls : Array Slot, lv_has ls 3 [(2, .int (nI i)), (1, .int (bOw S i)), (0, .ref (a 13))] → W p l e ({ frames := 0, cells := 0, slots := 0, locals := 0 } : Room) s m args below meth c s.heap [] 0 0 (MQ below (k2_QcV (.int (bOw S R))) args s 0 0 (fun _ => False)) (F0 m 4 ls [])) (R) ?_ ?_ 0 (by omega) ls (by first | exact lv_sub hl [0, 1, 2] rfl | (simpa using lv_sub hl [0, 1, 2] rfl))
  · intro ls hl
    refine lv_iload_n hx hb dX0_inDebt_4 rfl (lv_at hl 0 rfl) ?_
    refine lv_aload_n hx hb dX0_inDebt_5 rfl (lv_at hl 2 rfl) ?_
    refine gB_traderCount hC hB hR dX0_inDebt_6 ?_
    refine jge (i := R) (j := R) (tgt := 30) hC dX0_inDebt_9 (by decide) rfl rfl (by omega) (by omega) (fun c1 => ?_) (fun c1 => ?_)
    · refine lv_iload_n hx hb dX0_inDebt_30 rfl (lv_at hl 1 rfl) ?_
      exact rd_i hC hr hlocks dX0_inDebt_31 (by rfl)
    · exfalso; omega
  · intro i hi ih ls hl
    refine lv_iload_n hx hb dX0_inDebt_4 rfl (lv_at hl 0 rfl) ?_
    refine lv_aload_n hx hb dX0_inDebt_5 rfl (lv_at hl 2 rfl) ?_
    refine gB_traderCount hC hB hR dX0_inDebt_6 ?_
    refine jge (i := i) (j := R) (tgt := 30) hC dX0_inDebt_9 (by decide) rfl rfl (by omega) (by omega) (fun c2 => ?_) (fun c2 => ?_)
    · exfalso; omega
    · refine lv_aload_n hx hb dX0_inDebt_12 rfl (lv_at hl 2 rfl) ?_
      refine gB_purse hC hB dX0_inDebt_13 ?_
      refine lv_iload_n hx hb dX0_inDebt_16 rfl (lv_at hl 0 rfl) ?_
      refine lB_purse (i) hC hB rfl (by omega) rfl dX0_inDebt_17 ?_
      refine lv_if_ge (tgt := 24) hx hb dX0_inDebt_18 (by decide) (fun c3 => ?_) (fun c3 => ?_)
      · refine lv_iinc (v := nI (i + 1)) (lv' := [(2, .int (nI (i + 1))), (1, .int (bOw S i)), (0, .ref (a 13))]) hx hb dX0_inDebt_24 hl (k := 0) rfl (ninc i) (by decide) rfl (fun ls hl => ?_)
        refine lv_goto (tgt := 4) hx hb dX0_inDebt_27 (by decide) ?_
        have e4 : bOw S (i + 1) = bOw S i := by show _ + (if _ then _ else _) = _; rw [if_pos c3, Int32.add_zero]; rfl
        exact ih ls (by rw [e4]; exact lv_sub hl [0, 1, 2] rfl)
      · refine lv_iinc (v := (bOw S i) + 1) (lv' := [(1, .int ((bOw S i) + 1)), (2, .int (nI i)), (0, .ref (a 13))]) hx hb dX0_inDebt_21 hl (k := 1) rfl (rfl) (by decide) rfl (fun ls hl => ?_)
        refine lv_iinc (v := nI (i + 1)) (lv' := [(2, .int (nI (i + 1))), (1, .int ((bOw S i) + 1)), (0, .ref (a 13))]) hx hb dX0_inDebt_24 hl (k := 1) rfl (ninc i) (by decide) rfl (fun ls hl => ?_)
        refine lv_goto (tgt := 4) hx hb dX0_inDebt_27 (by decide) ?_
        have e5 : bOw S (i + 1) = (bOw S i) + 1 := by show _ + (if _ then _ else _) = _; rw [if_neg c3]; rfl
        exact ih ls (by rw [e5]; exact lv_sub hl [0, 1, 2] rfl)
set_option maxHeartbeats 4000000 in
set_option maxRecDepth 100000 in
theorem c_X0_bestToBuy (l : Launch) (D : va_G) (cI cQ : ClassId) (a : Nat → Nat) (S : bS) {T R : Nat} (hI : BI S T R) : Rd l yX0_bestToBuy cX0_bestToBuy 4 (some .int) ({ frames := 5, cells := 0, slots := 0, locals := 110 } : Room) (BW D cI cQ a S) [.ref (a 13)] (.int (oI (bBu S T R))) := by
  refine Rd.of (by decide) (Nat.le_of_ble_eq_true rfl) ?_
  intro p e s m args below meth c ls hC hr hlocks hB hl
  have hx := hC.1
  have hb := hC.2.1
  obtain ⟨hT, hR, hT8, hR6⟩ := id hI
  have hl : lv_has ls 4 [(0, .ref (a 13))] := hl
  refine lv_iconst (v := -1) hx hb dX0_bestToBuy_0 (by decide) ?_
  refine lv_istore_n (lv' := [(1, .int (-1)), (0, .ref (a 13))]) hx hb dX0_bestToBuy_1 rfl hl (by decide) rfl (fun ls hl => ?_)
  refine lv_iconst (v := 0) hx hb dX0_bestToBuy_2 (by decide) ?_
  refine lv_istore_n (lv' := [(2, .int (0)), (1, .int (-1)), (0, .ref (a 13))]) hx hb dX0_bestToBuy_3 rfl hl (by decide) rfl (fun ls hl => ?_)
  refine loopU (P := fun i => ∀ ls : Array Slot, lv_has ls 4 [(2, .int (nI i)), (1, .int (oI (ab (bRi S R) i))), (0, .ref (a 13))] → W p l e ({ frames := 5, cells := 0, slots := 0, locals := 110 } : Room) s m args below meth c s.heap [] 0 0 (MQ below (k2_QcV (.int (oI (bBu S T R)))) args s 0 0 (fun _ => False)) (F0 m 4 ls [])) (T) ?_ ?_ 0 (by omega) ls (by first | exact lv_sub hl [0, 1, 2] rfl | (simpa using lv_sub hl [0, 1, 2] rfl))
  · intro ls hl
    refine lv_iload_n hx hb dX0_bestToBuy_4 rfl (lv_at hl 0 rfl) ?_
    refine lv_aload_n hx hb dX0_bestToBuy_5 rfl (lv_at hl 2 rfl) ?_
    refine gB_towerCount hC hB hT dX0_bestToBuy_6 ?_
    refine jge (i := T) (j := T) (tgt := 43) hC dX0_bestToBuy_9 (by decide) rfl rfl (by omega) (by omega) (fun c1 => ?_) (fun c1 => ?_)
    · refine lv_iload_n hx hb dX0_bestToBuy_43 rfl (lv_at hl 1 rfl) ?_
      exact rd_i hC hr hlocks dX0_bestToBuy_44 (by rfl)
    · exfalso; omega
  · intro i hi ih ls hl
    rcases hq : ab (bRi S R) i with _ | b9
    · rw [hq] at hl
      have hl : lv_has ls 4 [(2, .int (nI i)), (1, .int (-1)), (0, .ref (a 13))] := hl
      refine lv_iload_n hx hb dX0_bestToBuy_4 rfl (lv_at hl 0 rfl) ?_
      refine lv_aload_n hx hb dX0_bestToBuy_5 rfl (lv_at hl 2 rfl) ?_
      refine gB_towerCount hC hB hT dX0_bestToBuy_6 ?_
      refine jge (i := i) (j := T) (tgt := 43) hC dX0_bestToBuy_9 (by decide) rfl rfl (by omega) (by omega) (fun c2 => ?_) (fun c2 => ?_)
      · exfalso; omega
      · refine lv_aload_n hx hb dX0_bestToBuy_12 rfl (lv_at hl 2 rfl) ?_
        refine lv_iload_n hx hb dX0_bestToBuy_13 rfl (lv_at hl 0 rfl) ?_
        refine k_X0_riseUntilStroke hC (c_X0_riseUntilStroke l D cI cQ a S hI (t := i) (by omega)) hB rfl ⟨rfl, rfl⟩ ⟨Nat.le_of_ble_eq_true rfl, Nat.le_of_ble_eq_true rfl⟩ ⟨Nat.zero_le _, Nat.zero_le _⟩ hl.1 rfl (Nat.le_of_ble_eq_true rfl) dX0_bestToBuy_14 ?_
        refine lv_istore_n (lv' := [(3, .int (bRi S R i)), (2, .int (nI i)), (1, .int (-1)), (0, .ref (a 13))]) hx hb dX0_bestToBuy_17 rfl hl (by decide) rfl (fun ls hl => ?_)
        refine lv_iload_n hx hb dX0_bestToBuy_18 rfl (lv_at hl 0 rfl) ?_
        refine lv_if_le (tgt := 37) hx hb dX0_bestToBuy_19 (by decide) (fun c3 => ?_) (fun c3 => ?_)
        · refine lv_iinc (v := nI (i + 1)) (lv' := [(2, .int (nI (i + 1))), (3, .int (bRi S R i)), (1, .int (-1)), (0, .ref (a 13))]) hx hb dX0_bestToBuy_37 hl (k := 1) rfl (ninc i) (by decide) rfl (fun ls hl => ?_)
          refine lv_goto (tgt := 4) hx hb dX0_bestToBuy_40 (by decide) ?_
          have e4 : oI (ab (bRi S R) (i + 1)) = -1 := by rw [ab_skip c3, hq] <;> rfl
          exact ih ls (by rw [e4]; exact lv_sub hl [0, 2, 3] rfl)
        · refine lv_iload_n hx hb dX0_bestToBuy_22 rfl (lv_at hl 2 rfl) ?_
          refine lv_if_lt (tgt := 35) hx hb dX0_bestToBuy_23 (by decide) (fun c5 => ?_) (fun c5 => ?_)
          · refine lv_iload_n hx hb dX0_bestToBuy_35 rfl (lv_at hl 1 rfl) ?_
            refine lv_istore_n (lv' := [(1, .int (nI i)), (3, .int (bRi S R i)), (2, .int (nI i)), (0, .ref (a 13))]) hx hb dX0_bestToBuy_36 rfl hl (by decide) rfl (fun ls hl => ?_)
            refine lv_iinc (v := nI (i + 1)) (lv' := [(2, .int (nI (i + 1))), (1, .int (nI i)), (3, .int (bRi S R i)), (0, .ref (a 13))]) hx hb dX0_bestToBuy_37 hl (k := 2) rfl (ninc i) (by decide) rfl (fun ls hl => ?_)
            refine lv_goto (tgt := 4) hx hb dX0_bestToBuy_40 (by decide) ?_
            have e6 : oI (ab (bRi S R) (i + 1)) = nI i := by rw [ab_none c3 hq] <;> rfl
            exact ih ls (by rw [e6]; exact lv_sub hl [0, 1, 3] rfl)
          · exfalso; revert c5; decide
    · rw [hq] at hl
      have hl : lv_has ls 4 [(2, .int (nI i)), (1, .int (nI b9)), (0, .ref (a 13))] := hl
      have hb9 := ab_lt i hq
      refine lv_iload_n hx hb dX0_bestToBuy_4 rfl (lv_at hl 0 rfl) ?_
      refine lv_aload_n hx hb dX0_bestToBuy_5 rfl (lv_at hl 2 rfl) ?_
      refine gB_towerCount hC hB hT dX0_bestToBuy_6 ?_
      refine jge (i := i) (j := T) (tgt := 43) hC dX0_bestToBuy_9 (by decide) rfl rfl (by omega) (by omega) (fun c7 => ?_) (fun c7 => ?_)
      · exfalso; omega
      · refine lv_aload_n hx hb dX0_bestToBuy_12 rfl (lv_at hl 2 rfl) ?_
        refine lv_iload_n hx hb dX0_bestToBuy_13 rfl (lv_at hl 0 rfl) ?_
        refine k_X0_riseUntilStroke hC (c_X0_riseUntilStroke l D cI cQ a S hI (t := i) (by omega)) hB rfl ⟨rfl, rfl⟩ ⟨Nat.le_of_ble_eq_true rfl, Nat.le_of_ble_eq_true rfl⟩ ⟨Nat.zero_le _, Nat.zero_le _⟩ hl.1 rfl (Nat.le_of_ble_eq_true rfl) dX0_bestToBuy_14 ?_
        refine lv_istore_n (lv' := [(3, .int (bRi S R i)), (2, .int (nI i)), (1, .int (nI b9)), (0, .ref (a 13))]) hx hb dX0_bestToBuy_17 rfl hl (by decide) rfl (fun ls hl => ?_)
        refine lv_iload_n hx hb dX0_bestToBuy_18 rfl (lv_at hl 0 rfl) ?_
        refine lv_if_le (tgt := 37) hx hb dX0_bestToBuy_19 (by decide) (fun c8 => ?_) (fun c8 => ?_)
        · refine lv_iinc (v := nI (i + 1)) (lv' := [(2, .int (nI (i + 1))), (3, .int (bRi S R i)), (1, .int (nI b9)), (0, .ref (a 13))]) hx hb dX0_bestToBuy_37 hl (k := 1) rfl (ninc i) (by decide) rfl (fun ls hl => ?_)
          refine lv_goto (tgt := 4) hx hb dX0_bestToBuy_40 (by decide) ?_
          have e9 : oI (ab (bRi S R) (i + 1)) = nI b9 := by rw [ab_skip c8, hq] <;> rfl
          exact ih ls (by rw [e9]; exact lv_sub hl [0, 2, 3] rfl)
        · refine lv_iload_n hx hb dX0_bestToBuy_22 rfl (lv_at hl 2 rfl) ?_
          refine lv_if_lt (tgt := 35) hx hb dX0_bestToBuy_23 (by decide) (fun c10 => ?_) (fun c10 => ?_)
          · exfalso; exact absurd c10 (nI_pos (by omega))
          · refine lv_iload_n hx hb dX0_bestToBuy_26 rfl (lv_at hl 0 rfl) ?_
            refine lv_aload_n hx hb dX0_bestToBuy_27 rfl (lv_at hl 3 rfl) ?_
            refine lv_iload_n hx hb dX0_bestToBuy_28 rfl (lv_at hl 2 rfl) ?_
            refine k_X0_riseUntilStroke hC (c_X0_riseUntilStroke l D cI cQ a S hI (t := b9) (by omega)) hB rfl ⟨rfl, rfl⟩ ⟨Nat.le_of_ble_eq_true rfl, Nat.le_of_ble_eq_true rfl⟩ ⟨Nat.zero_le _, Nat.zero_le _⟩ hl.1 rfl (Nat.le_of_ble_eq_true rfl) dX0_bestToBuy_29 ?_
            refine lv_icmp_le (tgt := 37) hx hb dX0_bestToBuy_32 (by decide) (fun c11 => ?_) (fun c11 => ?_)
            · refine lv_iinc (v := nI (i + 1)) (lv' := [(2, .int (nI (i + 1))), (3, .int (bRi S R i)), (1, .int (nI b9)), (0, .ref (a 13))]) hx hb dX0_bestToBuy_37 hl (k := 1) rfl (ninc i) (by decide) rfl (fun ls hl => ?_)
              refine lv_goto (tgt := 4) hx hb dX0_bestToBuy_40 (by decide) ?_
              have e12 : oI (ab (bRi S R) (i + 1)) = nI b9 := by rw [ab_keep c8 hq c11] <;> rfl
              exact ih ls (by rw [e12]; exact lv_sub hl [0, 2, 3] rfl)
            · refine lv_iload_n hx hb dX0_bestToBuy_35 rfl (lv_at hl 1 rfl) ?_
              refine lv_istore_n (lv' := [(1, .int (nI i)), (3, .int (bRi S R i)), (2, .int (nI i)), (0, .ref (a 13))]) hx hb dX0_bestToBuy_36 rfl hl (by decide) rfl (fun ls hl => ?_)
              refine lv_iinc (v := nI (i + 1)) (lv' := [(2, .int (nI (i + 1))), (1, .int (nI i)), (3, .int (bRi S R i)), (0, .ref (a 13))]) hx hb dX0_bestToBuy_37 hl (k := 2) rfl (ninc i) (by decide) rfl (fun ls hl => ?_)
              refine lv_goto (tgt := 4) hx hb dX0_bestToBuy_40 (by decide) ?_
              have e13 : oI (ab (bRi S R) (i + 1)) = nI i := by rw [ab_new c8 hq c11] <;> rfl
              exact ih ls (by rw [e13]; exact lv_sub hl [0, 1, 3] rfl)

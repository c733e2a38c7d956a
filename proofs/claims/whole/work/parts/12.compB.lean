set_option maxHeartbeats 4000000 in
set_option maxRecDepth 100000 in
theorem c_X0_requireTower (l : Launch) (D : va_G) (cI cQ : ClassId) (a : Nat → Nat) (S : bS) {T R : Nat} {t : Nat} (hI : BI S T R) (ht : t < T) : Rn l yX0_requireTower cX0_requireTower 2 none ({ frames := 0, cells := 0, slots := 0, locals := 0 } : Room) (BW D cI cQ a S) [.ref (a 13), .int (nI t)] := by
  refine Rn.of (by decide) (Nat.le_of_ble_eq_true rfl) ?_
  intro p e s m args below meth c ls hC hr hlocks hB hl
  have hx := hC.1
  have hb := hC.2.1
  obtain ⟨hT, hR, hT8, hR6⟩ := id hI
  have hl : lv_has ls 2 [(0, .ref (a 13)), (1, .int (nI t))] := hl
  refine lv_iload_n hx hb dX0_requireTower_0 rfl (lv_at hl 1 rfl) ?_
  refine lv_if_lt (tgt := 12) hx hb dX0_requireTower_1 (by decide) (fun c1 => ?_) (fun c1 => ?_)
  · exfalso; exact absurd c1 (nI_pos (by omega))
  · refine lv_iload_n hx hb dX0_requireTower_4 rfl (lv_at hl 1 rfl) ?_
    refine lv_aload_n hx hb dX0_requireTower_5 rfl (lv_at hl 0 rfl) ?_
    refine gB_towerCount hC hB hT dX0_requireTower_6 ?_
    refine jlt (i := t) (j := T) (tgt := 22) hC dX0_requireTower_9 (by decide) rfl rfl (by omega) (by omega) (fun c2 => ?_) (fun c2 => ?_)
    · exact rd_v hC hr hlocks dX0_requireTower_22
    · exfalso; omega
set_option maxHeartbeats 4000000 in
set_option maxRecDepth 100000 in
theorem c_X0_requireTrader (l : Launch) (D : va_G) (cI cQ : ClassId) (a : Nat → Nat) (S : bS) {T R : Nat} {r : Nat} (hI : BI S T R) (hr9 : r < R) : Rn l yX0_requireTrader cX0_requireTrader 2 none ({ frames := 0, cells := 0, slots := 0, locals := 0 } : Room) (BW D cI cQ a S) [.ref (a 13), .int (nI r)] := by
  refine Rn.of (by decide) (Nat.le_of_ble_eq_true rfl) ?_
  intro p e s m args below meth c ls hC hr hlocks hB hl
  have hx := hC.1
  have hb := hC.2.1
  obtain ⟨hT, hR, hT8, hR6⟩ := id hI
  have hl : lv_has ls 2 [(0, .ref (a 13)), (1, .int (nI r))] := hl
  refine lv_iload_n hx hb dX0_requireTrader_0 rfl (lv_at hl 1 rfl) ?_
  refine lv_if_lt (tgt := 12) hx hb dX0_requireTrader_1 (by decide) (fun c1 => ?_) (fun c1 => ?_)
  · exfalso; exact absurd c1 (nI_pos (by omega))
  · refine lv_iload_n hx hb dX0_requireTrader_4 rfl (lv_at hl 1 rfl) ?_
    refine lv_aload_n hx hb dX0_requireTrader_5 rfl (lv_at hl 0 rfl) ?_
    refine gB_traderCount hC hB hR dX0_requireTrader_6 ?_
    refine jlt (i := r) (j := R) (tgt := 22) hC dX0_requireTrader_9 (by decide) rfl rfl (by omega) (by omega) (fun c2 => ?_) (fun c2 => ?_)
    · exact rd_v hC hr hlocks dX0_requireTrader_22
    · exfalso; omega
set_option maxHeartbeats 4000000 in
set_option maxRecDepth 100000 in
theorem c_X0_requireTradable (l : Launch) {k : Nat} (hk1 : 1 ≤ k) (hk9 : k ≤ 9) : Rn l yX0_requireTradable cX0_requireTradable 1 none ({ frames := 0, cells := 0, slots := 0, locals := 0 } : Room) (fun _ _ => True) [.int (nI k)] := by
  refine Rn.of (by decide) (Nat.le_of_ble_eq_true rfl) ?_
  intro p e s m args below meth c ls hC hr hlocks hB hl
  have hx := hC.1
  have hb := hC.2.1
  have hl : lv_has ls 1 [(0, .int (nI k))] := hl
  refine lv_iload_n hx hb dX0_requireTradable_0 rfl (lv_at hl 0 rfl) ?_
  refine lv_iconst (v := 1) hx hb dX0_requireTradable_1 (by decide) ?_
  refine jlt (i := k) (j := 1) (tgt := 11) hC dX0_requireTradable_2 (by decide) rfl rfl (by omega) (by omega) (fun c1 => ?_) (fun c1 => ?_)
  · exfalso; omega
  · refine lv_iload_n hx hb dX0_requireTradable_5 rfl (lv_at hl 0 rfl) ?_
    refine lv_bipush (v := 9) hx hb dX0_requireTradable_6 (by decide) ?_
    refine jle (i := k) (j := 9) (tgt := 21) hC dX0_requireTradable_8 (by decide) rfl rfl (by omega) (by omega) (fun c2 => ?_) (fun c2 => ?_)
    · exact rd_v hC hr hlocks dX0_requireTradable_21
    · exfalso; omega
set_option maxHeartbeats 4000000 in
set_option maxRecDepth 100000 in
theorem c_X0_requirePassable (l : Launch) {k : Nat} (hk1 : 1 ≤ k) (hk9 : k ≤ 60) : Rn l yX0_requirePassable cX0_requirePassable 1 none ({ frames := 0, cells := 0, slots := 0, locals := 0 } : Room) (fun _ _ => True) [.int (nI k)] := by
  refine Rn.of (by decide) (Nat.le_of_ble_eq_true rfl) ?_
  intro p e s m args below meth c ls hC hr hlocks hB hl
  have hx := hC.1
  have hb := hC.2.1
  have hl : lv_has ls 1 [(0, .int (nI k))] := hl
  refine lv_iload_n hx hb dX0_requirePassable_0 rfl (lv_at hl 0 rfl) ?_
  refine lv_iconst (v := 1) hx hb dX0_requirePassable_1 (by decide) ?_
  refine jlt (i := k) (j := 1) (tgt := 11) hC dX0_requirePassable_2 (by decide) rfl rfl (by omega) (by omega) (fun c1 => ?_) (fun c1 => ?_)
  · exfalso; omega
  · refine lv_iload_n hx hb dX0_requirePassable_5 rfl (lv_at hl 0 rfl) ?_
    refine lv_bipush (v := 60) hx hb dX0_requirePassable_6 (by decide) ?_
    refine jle (i := k) (j := 60) (tgt := 21) hC dX0_requirePassable_8 (by decide) rfl rfl (by omega) (by omega) (fun c2 => ?_) (fun c2 => ?_)
    · exact rd_v hC hr hlocks dX0_requirePassable_21
    · exfalso; omega
set_option maxHeartbeats 4000000 in
set_option maxRecDepth 100000 in
theorem c_X0_second (l : Launch) (D : va_G) (cI cQ : ClassId) (a : Nat → Nat) (S : bS) {T R : Nat} (hI : BI S T R) : Rd l yX0_second cX0_second 1 (some .int) ({ frames := 0, cells := 0, slots := 0, locals := 0 } : Room) (BW D cI cQ a S) [.ref (a 13)] (.int (S 6 0)) := by
  refine Rd.of (by decide) (Nat.le_of_ble_eq_true rfl) ?_
  intro p e s m args below meth c ls hC hr hlocks hB hl
  have hx := hC.1
  have hb := hC.2.1
  obtain ⟨hT, hR, hT8, hR6⟩ := id hI
  have hl : lv_has ls 1 [(0, .ref (a 13))] := hl
  refine lv_aload_n hx hb dX0_second_0 rfl (lv_at hl 0 rfl) ?_
  refine gB_second hC hB rfl dX0_second_1 ?_
  exact rd_i hC hr hlocks dX0_second_4 (by rfl)
set_option maxHeartbeats 4000000 in
set_option maxRecDepth 100000 in
theorem c_X0_towers (l : Launch) (D : va_G) (cI cQ : ClassId) (a : Nat → Nat) (S : bS) {T R : Nat} (hI : BI S T R) : Rd l yX0_towers cX0_towers 1 (some .int) ({ frames := 0, cells := 0, slots := 0, locals := 0 } : Room) (BW D cI cQ a S) [.ref (a 13)] (.int (nI T)) := by
  refine Rd.of (by decide) (Nat.le_of_ble_eq_true rfl) ?_
  intro p e s m args below meth c ls hC hr hlocks hB hl
  have hx := hC.1
  have hb := hC.2.1
  obtain ⟨hT, hR, hT8, hR6⟩ := id hI
  have hl : lv_has ls 1 [(0, .ref (a 13))] := hl
  refine lv_aload_n hx hb dX0_towers_0 rfl (lv_at hl 0 rfl) ?_
  refine gB_towerCount hC hB hT dX0_towers_1 ?_
  exact rd_i hC hr hlocks dX0_towers_4 (by rfl)
set_option maxHeartbeats 4000000 in
set_option maxRecDepth 100000 in
theorem c_X0_traders (l : Launch) (D : va_G) (cI cQ : ClassId) (a : Nat → Nat) (S : bS) {T R : Nat} (hI : BI S T R) : Rd l yX0_traders cX0_traders 1 (some .int) ({ frames := 0, cells := 0, slots := 0, locals := 0 } : Room) (BW D cI cQ a S) [.ref (a 13)] (.int (nI R)) := by
  refine Rd.of (by decide) (Nat.le_of_ble_eq_true rfl) ?_
  intro p e s m args below meth c ls hC hr hlocks hB hl
  have hx := hC.1
  have hb := hC.2.1
  obtain ⟨hT, hR, hT8, hR6⟩ := id hI
  have hl : lv_has ls 1 [(0, .ref (a 13))] := hl
  refine lv_aload_n hx hb dX0_traders_0 rfl (lv_at hl 0 rfl) ?_
  refine gB_traderCount hC hB hR dX0_traders_1 ?_
  exact rd_i hC hr hlocks dX0_traders_4 (by rfl)
set_option maxHeartbeats 4000000 in
set_option maxRecDepth 100000 in
theorem c_X0_silenceOf (l : Launch) (D : va_G) (cI cQ : ClassId) (a : Nat → Nat) (S : bS) {T R : Nat} {t : Nat} (hI : BI S T R) (ht : t < T) : Rd l yX0_silenceOf cX0_silenceOf 2 (some .int) ({ frames := 1, cells := 0, slots := 0, locals := 21 } : Room) (BW D cI cQ a S) [.ref (a 13), .int (nI t)] (.int (S 2 t)) := by
  refine Rd.of (by decide) (Nat.le_of_ble_eq_true rfl) ?_
  intro p e s m args below meth c ls hC hr hlocks hB hl
  have hx := hC.1
  have hb := hC.2.1
  obtain ⟨hT, hR, hT8, hR6⟩ := id hI
  have hl : lv_has ls 2 [(0, .ref (a 13)), (1, .int (nI t))] := hl
  refine lv_aload_n hx hb dX0_silenceOf_0 rfl (lv_at hl 0 rfl) ?_
  refine lv_iload_n hx hb dX0_silenceOf_1 rfl (lv_at hl 1 rfl) ?_
  refine kn_X0_requireTower hC (c_X0_requireTower l D cI cQ a S hI (t := t) (by omega)) hB rfl ⟨rfl, rfl⟩ ⟨Nat.le_of_ble_eq_true rfl, Nat.le_of_ble_eq_true rfl⟩ ⟨Nat.zero_le _, Nat.zero_le _⟩ hl.1 rfl (Nat.le_of_ble_eq_true rfl) dX0_silenceOf_2 ?_
  refine lv_aload_n hx hb dX0_silenceOf_5 rfl (lv_at hl 0 rfl) ?_
  refine gB_silence hC hB dX0_silenceOf_6 ?_
  refine lv_iload_n hx hb dX0_silenceOf_9 rfl (lv_at hl 1 rfl) ?_
  refine lB_silence (t) hC hB rfl (by omega) rfl dX0_silenceOf_10 ?_
  exact rd_i hC hr hlocks dX0_silenceOf_11 (by rfl)
set_option maxHeartbeats 4000000 in
set_option maxRecDepth 100000 in
theorem c_X0_dovesOn (l : Launch) (D : va_G) (cI cQ : ClassId) (a : Nat → Nat) (S : bS) {T R : Nat} {t : Nat} (hI : BI S T R) (ht : t < T) : Rd l yX0_dovesOn cX0_dovesOn 2 (some .int) ({ frames := 3, cells := 0, slots := 0, locals := 67 } : Room) (BW D cI cQ a S) [.ref (a 13), .int (nI t)] (.int (bDv S R t)) := by
  refine Rd.of (by decide) (Nat.le_of_ble_eq_true rfl) ?_
  intro p e s m args below meth c ls hC hr hlocks hB hl
  have hx := hC.1
  have hb := hC.2.1
  obtain ⟨hT, hR, hT8, hR6⟩ := id hI
  have hl : lv_has ls 2 [(0, .ref (a 13)), (1, .int (nI t))] := hl
  refine lv_aload_n hx hb dX0_dovesOn_0 rfl (lv_at hl 0 rfl) ?_
  refine lv_iload_n hx hb dX0_dovesOn_1 rfl (lv_at hl 1 rfl) ?_
  refine kn_X0_requireTower hC (c_X0_requireTower l D cI cQ a S hI (t := t) (by omega)) hB rfl ⟨rfl, rfl⟩ ⟨Nat.le_of_ble_eq_true rfl, Nat.le_of_ble_eq_true rfl⟩ ⟨Nat.zero_le _, Nat.zero_le _⟩ hl.1 rfl (Nat.le_of_ble_eq_true rfl) dX0_dovesOn_2 ?_
  refine lv_aload_n hx hb dX0_dovesOn_5 rfl (lv_at hl 0 rfl) ?_
  refine lv_iload_n hx hb dX0_dovesOn_6 rfl (lv_at hl 1 rfl) ?_
  refine k_X0_dovesNow hC (c_X0_dovesNow l D cI cQ a S hI (t := t) (by omega)) hB rfl ⟨rfl, rfl⟩ ⟨Nat.le_of_ble_eq_true rfl, Nat.le_of_ble_eq_true rfl⟩ ⟨Nat.zero_le _, Nat.zero_le _⟩ hl.1 rfl (Nat.le_of_ble_eq_true rfl) dX0_dovesOn_7 ?_
  exact rd_i hC hr hlocks dX0_dovesOn_10 (by rfl)
set_option maxHeartbeats 4000000 in
set_option maxRecDepth 100000 in
theorem c_X0_priceOf (l : Launch) (D : va_G) (cI cQ : ClassId) (a : Nat → Nat) (S : bS) {T R : Nat} {t : Nat} (hI : BI S T R) (ht : t < T) : Rd l yX0_priceOf cX0_priceOf 2 (some .int) ({ frames := 4, cells := 0, slots := 0, locals := 88 } : Room) (BW D cI cQ a S) [.ref (a 13), .int (nI t)] (.int (bPr S R t)) := by
  refine Rd.of (by decide) (Nat.le_of_ble_eq_true rfl) ?_
  intro p e s m args below meth c ls hC hr hlocks hB hl
  have hx := hC.1
  have hb := hC.2.1
  obtain ⟨hT, hR, hT8, hR6⟩ := id hI
  have hl : lv_has ls 2 [(0, .ref (a 13)), (1, .int (nI t))] := hl
  refine lv_aload_n hx hb dX0_priceOf_0 rfl (lv_at hl 0 rfl) ?_
  refine lv_iload_n hx hb dX0_priceOf_1 rfl (lv_at hl 1 rfl) ?_
  refine kn_X0_requireTower hC (c_X0_requireTower l D cI cQ a S hI (t := t) (by omega)) hB rfl ⟨rfl, rfl⟩ ⟨Nat.le_of_ble_eq_true rfl, Nat.le_of_ble_eq_true rfl⟩ ⟨Nat.zero_le _, Nat.zero_le _⟩ hl.1 rfl (Nat.le_of_ble_eq_true rfl) dX0_priceOf_2 ?_
  refine lv_aload_n hx hb dX0_priceOf_5 rfl (lv_at hl 0 rfl) ?_
  refine lv_iload_n hx hb dX0_priceOf_6 rfl (lv_at hl 1 rfl) ?_
  refine k_X0_priceNow hC (c_X0_priceNow l D cI cQ a S hI (t := t) (by omega)) hB rfl ⟨rfl, rfl⟩ ⟨Nat.le_of_ble_eq_true rfl, Nat.le_of_ble_eq_true rfl⟩ ⟨Nat.zero_le _, Nat.zero_le _⟩ hl.1 rfl (Nat.le_of_ble_eq_true rfl) dX0_priceOf_7 ?_
  exact rd_i hC hr hlocks dX0_priceOf_10 (by rfl)
set_option maxHeartbeats 4000000 in
set_option maxRecDepth 100000 in
theorem c_X0_secondsUntilStroke (l : Launch) (D : va_G) (cI cQ : ClassId) (a : Nat → Nat) (S : bS) {T R : Nat} {t : Nat} (hI : BI S T R) (ht : t < T) : Rd l yX0_secondsUntilStroke cX0_secondsUntilStroke 2 (some .int) ({ frames := 1, cells := 0, slots := 0, locals := 21 } : Room) (BW D cI cQ a S) [.ref (a 13), .int (nI t)] (.int (S 3 t)) := by
  refine Rd.of (by decide) (Nat.le_of_ble_eq_true rfl) ?_
  intro p e s m args below meth c ls hC hr hlocks hB hl
  have hx := hC.1
  have hb := hC.2.1
  obtain ⟨hT, hR, hT8, hR6⟩ := id hI
  have hl : lv_has ls 2 [(0, .ref (a 13)), (1, .int (nI t))] := hl
  refine lv_aload_n hx hb dX0_secondsUntilStroke_0 rfl (lv_at hl 0 rfl) ?_
  refine lv_iload_n hx hb dX0_secondsUntilStroke_1 rfl (lv_at hl 1 rfl) ?_
  refine kn_X0_requireTower hC (c_X0_requireTower l D cI cQ a S hI (t := t) (by omega)) hB rfl ⟨rfl, rfl⟩ ⟨Nat.le_of_ble_eq_true rfl, Nat.le_of_ble_eq_true rfl⟩ ⟨Nat.zero_le _, Nat.zero_le _⟩ hl.1 rfl (Nat.le_of_ble_eq_true rfl) dX0_secondsUntilStroke_2 ?_
  refine lv_aload_n hx hb dX0_secondsUntilStroke_5 rfl (lv_at hl 0 rfl) ?_
  refine gB_untilStroke hC hB dX0_secondsUntilStroke_6 ?_
  refine lv_iload_n hx hb dX0_secondsUntilStroke_9 rfl (lv_at hl 1 rfl) ?_
  refine lB_untilStroke (t) hC hB rfl (by omega) rfl dX0_secondsUntilStroke_10 ?_
  exact rd_i hC hr hlocks dX0_secondsUntilStroke_11 (by rfl)
set_option maxHeartbeats 4000000 in
set_option maxRecDepth 100000 in
theorem c_X0_strokesOf (l : Launch) (D : va_G) (cI cQ : ClassId) (a : Nat → Nat) (S : bS) {T R : Nat} {t : Nat} (hI : BI S T R) (ht : t < T) : Rd l yX0_strokesOf cX0_strokesOf 2 (some .int) ({ frames := 1, cells := 0, slots := 0, locals := 21 } : Room) (BW D cI cQ a S) [.ref (a 13), .int (nI t)] (.int (S 4 t)) := by
  refine Rd.of (by decide) (Nat.le_of_ble_eq_true rfl) ?_
  intro p e s m args below meth c ls hC hr hlocks hB hl
  have hx := hC.1
  have hb := hC.2.1
  obtain ⟨hT, hR, hT8, hR6⟩ := id hI
  have hl : lv_has ls 2 [(0, .ref (a 13)), (1, .int (nI t))] := hl
  refine lv_aload_n hx hb dX0_strokesOf_0 rfl (lv_at hl 0 rfl) ?_
  refine lv_iload_n hx hb dX0_strokesOf_1 rfl (lv_at hl 1 rfl) ?_
  refine kn_X0_requireTower hC (c_X0_requireTower l D cI cQ a S hI (t := t) (by omega)) hB rfl ⟨rfl, rfl⟩ ⟨Nat.le_of_ble_eq_true rfl, Nat.le_of_ble_eq_true rfl⟩ ⟨Nat.zero_le _, Nat.zero_le _⟩ hl.1 rfl (Nat.le_of_ble_eq_true rfl) dX0_strokesOf_2 ?_
  refine lv_aload_n hx hb dX0_strokesOf_5 rfl (lv_at hl 0 rfl) ?_
  refine gB_strokes hC hB dX0_strokesOf_6 ?_
  refine lv_iload_n hx hb dX0_strokesOf_9 rfl (lv_at hl 1 rfl) ?_
  refine lB_strokes (t) hC hB rfl (by omega) rfl dX0_strokesOf_10 ?_
  exact rd_i hC hr hlocks dX0_strokesOf_11 (by rfl)
set_option maxHeartbeats 4000000 in
set_option maxRecDepth 100000 in
theorem c_X0_openSeconds (l : Launch) (D : va_G) (cI cQ : ClassId) (a : Nat → Nat) (S : bS) {T R : Nat} {t : Nat} (hI : BI S T R) (ht : t < T) : Rd l yX0_openSeconds cX0_openSeconds 2 (some .int) ({ frames := 1, cells := 0, slots := 0, locals := 23 } : Room) (BW D cI cQ a S) [.ref (a 13), .int (nI t)] (.int (bOp S R t)) := by
  refine Rd.of (by decide) (Nat.le_of_ble_eq_true rfl) ?_
  intro p e s m args below meth c ls hC hr hlocks hB hl
  have hx := hC.1
  have hb := hC.2.1
  obtain ⟨hT, hR, hT8, hR6⟩ := id hI
  have hl : lv_has ls 2 [(0, .ref (a 13)), (1, .int (nI t))] := hl
  refine lv_aload_n hx hb dX0_openSeconds_0 rfl (lv_at hl 0 rfl) ?_
  refine lv_iload_n hx hb dX0_openSeconds_1 rfl (lv_at hl 1 rfl) ?_
  refine kn_X0_requireTower hC (c_X0_requireTower l D cI cQ a S hI (t := t) (by omega)) hB rfl ⟨rfl, rfl⟩ ⟨Nat.le_of_ble_eq_true rfl, Nat.le_of_ble_eq_true rfl⟩ ⟨Nat.zero_le _, Nat.zero_le _⟩ hl.1 rfl (Nat.le_of_ble_eq_true rfl) dX0_openSeconds_2 ?_
  refine lv_aload_n hx hb dX0_openSeconds_5 rfl (lv_at hl 0 rfl) ?_
  refine lv_iload_n hx hb dX0_openSeconds_6 rfl (lv_at hl 1 rfl) ?_
  refine k_X0_heldByAll hC (c_X0_heldByAll l D cI cQ a S hI (t := t) (by omega)) hB rfl ⟨rfl, rfl⟩ ⟨Nat.le_of_ble_eq_true rfl, Nat.le_of_ble_eq_true rfl⟩ ⟨Nat.zero_le _, Nat.zero_le _⟩ hl.1 rfl (Nat.le_of_ble_eq_true rfl) dX0_openSeconds_7 ?_
  exact rd_i hC hr hlocks dX0_openSeconds_10 (by rfl)
set_option maxHeartbeats 4000000 in
set_option maxRecDepth 100000 in
theorem c_X0_closingPrice (l : Launch) (D : va_G) (cI cQ : ClassId) (a : Nat → Nat) (S : bS) {T R : Nat} {t : Nat} (hI : BI S T R) (ht : t < T) : Rd l yX0_closingPrice cX0_closingPrice 2 (some .int) ({ frames := 4, cells := 0, slots := 0, locals := 89 } : Room) (BW D cI cQ a S) [.ref (a 13), .int (nI t)] (.int (bCl S R t)) := by
  refine Rd.of (by decide) (Nat.le_of_ble_eq_true rfl) ?_
  intro p e s m args below meth c ls hC hr hlocks hB hl
  have hx := hC.1
  have hb := hC.2.1
  obtain ⟨hT, hR, hT8, hR6⟩ := id hI
  have hl : lv_has ls 2 [(0, .ref (a 13)), (1, .int (nI t))] := hl
  refine lv_aload_n hx hb dX0_closingPrice_0 rfl (lv_at hl 0 rfl) ?_
  refine lv_iload_n hx hb dX0_closingPrice_1 rfl (lv_at hl 1 rfl) ?_
  refine kn_X0_requireTower hC (c_X0_requireTower l D cI cQ a S hI (t := t) (by omega)) hB rfl ⟨rfl, rfl⟩ ⟨Nat.le_of_ble_eq_true rfl, Nat.le_of_ble_eq_true rfl⟩ ⟨Nat.zero_le _, Nat.zero_le _⟩ hl.1 rfl (Nat.le_of_ble_eq_true rfl) dX0_closingPrice_2 ?_
  refine lv_aload_n hx hb dX0_closingPrice_5 rfl (lv_at hl 0 rfl) ?_
  refine lv_iload_n hx hb dX0_closingPrice_6 rfl (lv_at hl 1 rfl) ?_
  refine k_X0_closing hC (c_X0_closing l D cI cQ a S hI (t := t) (by omega)) hB rfl ⟨rfl, rfl⟩ ⟨Nat.le_of_ble_eq_true rfl, Nat.le_of_ble_eq_true rfl⟩ ⟨Nat.zero_le _, Nat.zero_le _⟩ hl.1 rfl (Nat.le_of_ble_eq_true rfl) dX0_closingPrice_7 ?_
  exact rd_i hC hr hlocks dX0_closingPrice_10 (by rfl)
set_option maxHeartbeats 4000000 in
set_option maxRecDepth 100000 in
theorem c_X0_purseOf (l : Launch) (D : va_G) (cI cQ : ClassId) (a : Nat → Nat) (S : bS) {T R : Nat} {r : Nat} (hI : BI S T R) (hr9 : r < R) : Rd l yX0_purseOf cX0_purseOf 2 (some .int) ({ frames := 1, cells := 0, slots := 0, locals := 21 } : Room) (BW D cI cQ a S) [.ref (a 13), .int (nI r)] (.int (S 5 r)) := by
  refine Rd.of (by decide) (Nat.le_of_ble_eq_true rfl) ?_
  intro p e s m args below meth c ls hC hr hlocks hB hl
  have hx := hC.1
  have hb := hC.2.1
  obtain ⟨hT, hR, hT8, hR6⟩ := id hI
  have hl : lv_has ls 2 [(0, .ref (a 13)), (1, .int (nI r))] := hl
  refine lv_aload_n hx hb dX0_purseOf_0 rfl (lv_at hl 0 rfl) ?_
  refine lv_iload_n hx hb dX0_purseOf_1 rfl (lv_at hl 1 rfl) ?_
  refine kn_X0_requireTrader hC (c_X0_requireTrader l D cI cQ a S hI (r := r) (by omega)) hB rfl ⟨rfl, rfl⟩ ⟨Nat.le_of_ble_eq_true rfl, Nat.le_of_ble_eq_true rfl⟩ ⟨Nat.zero_le _, Nat.zero_le _⟩ hl.1 rfl (Nat.le_of_ble_eq_true rfl) dX0_purseOf_2 ?_
  refine lv_aload_n hx hb dX0_purseOf_5 rfl (lv_at hl 0 rfl) ?_
  refine gB_purse hC hB dX0_purseOf_6 ?_
  refine lv_iload_n hx hb dX0_purseOf_9 rfl (lv_at hl 1 rfl) ?_
  refine lB_purse (r) hC hB rfl (by omega) rfl dX0_purseOf_10 ?_
  exact rd_i hC hr hlocks dX0_purseOf_11 (by rfl)
set_option maxHeartbeats 4000000 in
set_option maxRecDepth 100000 in
theorem c_X0_worthOf (l : Launch) (D : va_G) (cI cQ : ClassId) (a : Nat → Nat) (S : bS) {T R : Nat} {r : Nat} (hI : BI S T R) (hr9 : r < R) : Rd l yX0_worthOf cX0_worthOf 2 (some .int) ({ frames := 5, cells := 0, slots := 0, locals := 118 } : Room) (BW D cI cQ a S) [.ref (a 13), .int (nI r)] (.int (bWb S T R r 0)) := by
  refine Rd.of (by decide) (Nat.le_of_ble_eq_true rfl) ?_
  intro p e s m args below meth c ls hC hr hlocks hB hl
  have hx := hC.1
  have hb := hC.2.1
  obtain ⟨hT, hR, hT8, hR6⟩ := id hI
  have hl : lv_has ls 2 [(0, .ref (a 13)), (1, .int (nI r))] := hl
  refine lv_aload_n hx hb dX0_worthOf_0 rfl (lv_at hl 0 rfl) ?_
  refine lv_iload_n hx hb dX0_worthOf_1 rfl (lv_at hl 1 rfl) ?_
  refine kn_X0_requireTrader hC (c_X0_requireTrader l D cI cQ a S hI (r := r) (by omega)) hB rfl ⟨rfl, rfl⟩ ⟨Nat.le_of_ble_eq_true rfl, Nat.le_of_ble_eq_true rfl⟩ ⟨Nat.zero_le _, Nat.zero_le _⟩ hl.1 rfl (Nat.le_of_ble_eq_true rfl) dX0_worthOf_2 ?_
  refine lv_aload_n hx hb dX0_worthOf_5 rfl (lv_at hl 0 rfl) ?_
  refine lv_iload_n hx hb dX0_worthOf_6 rfl (lv_at hl 1 rfl) ?_
  refine lv_iconst (v := 0) hx hb dX0_worthOf_7 (by decide) ?_
  refine k_X0_worthBehind hC (c_X0_worthBehind l D cI cQ a S hI (r := r) (k := 0) (by omega)) hB rfl ⟨rfl, rfl⟩ ⟨Nat.le_of_ble_eq_true rfl, Nat.le_of_ble_eq_true rfl⟩ ⟨Nat.zero_le _, Nat.zero_le _⟩ hl.1 rfl (Nat.le_of_ble_eq_true rfl) dX0_worthOf_8 ?_
  exact rd_i hC hr hlocks dX0_worthOf_11 (by rfl)
set_option maxHeartbeats 4000000 in
set_option maxRecDepth 100000 in
theorem c_X0_shortsOf (l : Launch) (D : va_G) (cI cQ : ClassId) (a : Nat → Nat) (S : bS) {T R : Nat} {r : Nat} (hI : BI S T R) (hr9 : r < R) : Rd l yX0_shortsOf cX0_shortsOf 2 (some .int) ({ frames := 1, cells := 0, slots := 0, locals := 23 } : Room) (BW D cI cQ a S) [.ref (a 13), .int (nI r)] (.int (bSh S T r)) := by
  refine Rd.of (by decide) (Nat.le_of_ble_eq_true rfl) ?_
  intro p e s m args below meth c ls hC hr hlocks hB hl
  have hx := hC.1
  have hb := hC.2.1
  obtain ⟨hT, hR, hT8, hR6⟩ := id hI
  have hl : lv_has ls 2 [(0, .ref (a 13)), (1, .int (nI r))] := hl
  refine lv_aload_n hx hb dX0_shortsOf_0 rfl (lv_at hl 0 rfl) ?_
  refine lv_iload_n hx hb dX0_shortsOf_1 rfl (lv_at hl 1 rfl) ?_
  refine kn_X0_requireTrader hC (c_X0_requireTrader l D cI cQ a S hI (r := r) (by omega)) hB rfl ⟨rfl, rfl⟩ ⟨Nat.le_of_ble_eq_true rfl, Nat.le_of_ble_eq_true rfl⟩ ⟨Nat.zero_le _, Nat.zero_le _⟩ hl.1 rfl (Nat.le_of_ble_eq_true rfl) dX0_shortsOf_2 ?_
  refine lv_aload_n hx hb dX0_shortsOf_5 rfl (lv_at hl 0 rfl) ?_
  refine lv_iload_n hx hb dX0_shortsOf_6 rfl (lv_at hl 1 rfl) ?_
  refine k_X0_shortTowers hC (c_X0_shortTowers l D cI cQ a S hI (r := r) (by omega)) hB rfl ⟨rfl, rfl⟩ ⟨Nat.le_of_ble_eq_true rfl, Nat.le_of_ble_eq_true rfl⟩ ⟨Nat.zero_le _, Nat.zero_le _⟩ hl.1 rfl (Nat.le_of_ble_eq_true rfl) dX0_shortsOf_7 ?_
  exact rd_i hC hr hlocks dX0_shortsOf_10 (by rfl)
set_option maxHeartbeats 4000000 in
set_option maxRecDepth 100000 in
theorem c_X0_holds (l : Launch) (D : va_G) (cI cQ : ClassId) (a : Nat → Nat) (S : bS) {T R : Nat} {r t : Nat} (hI : BI S T R) (hr9 : r < R) (ht : t < T) : Rd l yX0_holds cX0_holds 3 (some .int) ({ frames := 1, cells := 0, slots := 0, locals := 21 } : Room) (BW D cI cQ a S) [.ref (a 13), .int (nI r), .int (nI t)] (.int (S (7 + r) t)) := by
  refine Rd.of (by decide) (Nat.le_of_ble_eq_true rfl) ?_
  intro p e s m args below meth c ls hC hr hlocks hB hl
  have hx := hC.1
  have hb := hC.2.1
  obtain ⟨hT, hR, hT8, hR6⟩ := id hI
  have hl : lv_has ls 3 [(0, .ref (a 13)), (1, .int (nI r)), (2, .int (nI t))] := hl
  refine lv_aload_n hx hb dX0_holds_0 rfl (lv_at hl 0 rfl) ?_
  refine lv_iload_n hx hb dX0_holds_1 rfl (lv_at hl 1 rfl) ?_
  refine kn_X0_requireTrader hC (c_X0_requireTrader l D cI cQ a S hI (r := r) (by omega)) hB rfl ⟨rfl, rfl⟩ ⟨Nat.le_of_ble_eq_true rfl, Nat.le_of_ble_eq_true rfl⟩ ⟨Nat.zero_le _, Nat.zero_le _⟩ hl.1 rfl (Nat.le_of_ble_eq_true rfl) dX0_holds_2 ?_
  refine lv_aload_n hx hb dX0_holds_5 rfl (lv_at hl 0 rfl) ?_
  refine lv_iload_n hx hb dX0_holds_6 rfl (lv_at hl 2 rfl) ?_
  refine kn_X0_requireTower hC (c_X0_requireTower l D cI cQ a S hI (t := t) (by omega)) hB rfl ⟨rfl, rfl⟩ ⟨Nat.le_of_ble_eq_true rfl, Nat.le_of_ble_eq_true rfl⟩ ⟨Nat.zero_le _, Nat.zero_le _⟩ hl.1 rfl (Nat.le_of_ble_eq_true rfl) dX0_holds_7 ?_
  refine lv_aload_n hx hb dX0_holds_10 rfl (lv_at hl 0 rfl) ?_
  refine gB_held hC hB dX0_holds_11 ?_
  refine lv_iload_n hx hb dX0_holds_14 rfl (lv_at hl 1 rfl) ?_
  refine lB_row (r) hC hB rfl (by omega) dX0_holds_15 ?_
  refine lv_iload_n hx hb dX0_holds_16 rfl (lv_at hl 2 rfl) ?_
  refine lB_held (r) (t) hC hB (by omega) rfl (by omega) rfl dX0_holds_17 ?_
  exact rd_i hC hr hlocks dX0_holds_18 (by rfl)
set_option maxHeartbeats 4000000 in
set_option maxRecDepth 100000 in
theorem c_X0_priceIn (l : Launch) (D : va_G) (cI cQ : ClassId) (a : Nat → Nat) (S : bS) {T R : Nat} {t k : Nat} (hI : BI S T R) (ht : t < T) (hk1 : 1 ≤ k) (hk9 : k ≤ 60) : Rd l yX0_priceIn cX0_priceIn 3 (some .int) ({ frames := 4, cells := 0, slots := 0, locals := 92 } : Room) (BW D cI cQ a S) [.ref (a 13), .int (nI t), .int (nI k)] (.int (bPb S R t k)) := by
  refine Rd.of (by decide) (Nat.le_of_ble_eq_true rfl) ?_
  intro p e s m args below meth c ls hC hr hlocks hB hl
  have hx := hC.1
  have hb := hC.2.1
  obtain ⟨hT, hR, hT8, hR6⟩ := id hI
  have hl : lv_has ls 3 [(0, .ref (a 13)), (1, .int (nI t)), (2, .int (nI k))] := hl
  refine lv_aload_n hx hb dX0_priceIn_0 rfl (lv_at hl 0 rfl) ?_
  refine lv_iload_n hx hb dX0_priceIn_1 rfl (lv_at hl 1 rfl) ?_
  refine kn_X0_requireTower hC (c_X0_requireTower l D cI cQ a S hI (t := t) (by omega)) hB rfl ⟨rfl, rfl⟩ ⟨Nat.le_of_ble_eq_true rfl, Nat.le_of_ble_eq_true rfl⟩ ⟨Nat.zero_le _, Nat.zero_le _⟩ hl.1 rfl (Nat.le_of_ble_eq_true rfl) dX0_priceIn_2 ?_
  refine lv_iload_n hx hb dX0_priceIn_5 rfl (lv_at hl 2 rfl) ?_
  refine kn_X0_requirePassable hC (c_X0_requirePassable l (k := k) (by omega) (by omega)) mov_T trivial rfl ⟨rfl, rfl⟩ ⟨Nat.le_of_ble_eq_true rfl, Nat.le_of_ble_eq_true rfl⟩ ⟨Nat.zero_le _, Nat.zero_le _⟩ hl.1 rfl (Nat.le_of_ble_eq_true rfl) dX0_priceIn_6 ?_
  refine lv_aload_n hx hb dX0_priceIn_9 rfl (lv_at hl 0 rfl) ?_
  refine lv_iload_n hx hb dX0_priceIn_10 rfl (lv_at hl 1 rfl) ?_
  refine lv_iload_n hx hb dX0_priceIn_11 rfl (lv_at hl 2 rfl) ?_
  refine k_X0_priceBehind hC (c_X0_priceBehind l D cI cQ a S hI (t := t) (k := k) (by omega)) hB rfl ⟨rfl, rfl⟩ ⟨Nat.le_of_ble_eq_true rfl, Nat.le_of_ble_eq_true rfl⟩ ⟨Nat.zero_le _, Nat.zero_le _⟩ hl.1 rfl (Nat.le_of_ble_eq_true rfl) dX0_priceIn_12 ?_
  exact rd_i hC hr hlocks dX0_priceIn_15 (by rfl)
set_option maxHeartbeats 4000000 in
set_option maxRecDepth 100000 in
theorem c_X0_worthIn (l : Launch) (D : va_G) (cI cQ : ClassId) (a : Nat → Nat) (S : bS) {T R : Nat} {r k : Nat} (hI : BI S T R) (hr9 : r < R) (hk1 : 1 ≤ k) (hk9 : k ≤ 60) : Rd l yX0_worthIn cX0_worthIn 3 (some .int) ({ frames := 5, cells := 0, slots := 0, locals := 118 } : Room) (BW D cI cQ a S) [.ref (a 13), .int (nI r), .int (nI k)] (.int (bWb S T R r k)) := by
  refine Rd.of (by decide) (Nat.le_of_ble_eq_true rfl) ?_
  intro p e s m args below meth c ls hC hr hlocks hB hl
  have hx := hC.1
  have hb := hC.2.1
  obtain ⟨hT, hR, hT8, hR6⟩ := id hI
  have hl : lv_has ls 3 [(0, .ref (a 13)), (1, .int (nI r)), (2, .int (nI k))] := hl
  refine lv_aload_n hx hb dX0_worthIn_0 rfl (lv_at hl 0 rfl) ?_
  refine lv_iload_n hx hb dX0_worthIn_1 rfl (lv_at hl 1 rfl) ?_
  refine kn_X0_requireTrader hC (c_X0_requireTrader l D cI cQ a S hI (r := r) (by omega)) hB rfl ⟨rfl, rfl⟩ ⟨Nat.le_of_ble_eq_true rfl, Nat.le_of_ble_eq_true rfl⟩ ⟨Nat.zero_le _, Nat.zero_le _⟩ hl.1 rfl (Nat.le_of_ble_eq_true rfl) dX0_worthIn_2 ?_
  refine lv_iload_n hx hb dX0_worthIn_5 rfl (lv_at hl 2 rfl) ?_
  refine kn_X0_requirePassable hC (c_X0_requirePassable l (k := k) (by omega) (by omega)) mov_T trivial rfl ⟨rfl, rfl⟩ ⟨Nat.le_of_ble_eq_true rfl, Nat.le_of_ble_eq_true rfl⟩ ⟨Nat.zero_le _, Nat.zero_le _⟩ hl.1 rfl (Nat.le_of_ble_eq_true rfl) dX0_worthIn_6 ?_
  refine lv_aload_n hx hb dX0_worthIn_9 rfl (lv_at hl 0 rfl) ?_
  refine lv_iload_n hx hb dX0_worthIn_10 rfl (lv_at hl 1 rfl) ?_
  refine lv_iload_n hx hb dX0_worthIn_11 rfl (lv_at hl 2 rfl) ?_
  refine k_X0_worthBehind hC (c_X0_worthBehind l D cI cQ a S hI (r := r) (k := k) (by omega)) hB rfl ⟨rfl, rfl⟩ ⟨Nat.le_of_ble_eq_true rfl, Nat.le_of_ble_eq_true rfl⟩ ⟨Nat.zero_le _, Nat.zero_le _⟩ hl.1 rfl (Nat.le_of_ble_eq_true rfl) dX0_worthIn_12 ?_
  exact rd_i hC hr hlocks dX0_worthIn_15 (by rfl)
set_option maxHeartbeats 4000000 in
set_option maxRecDepth 100000 in
theorem c_X0_dearest (l : Launch) (D : va_G) (cI cQ : ClassId) (a : Nat → Nat) (S : bS) {T R : Nat} (hI : BI S T R) : Rd l yX0_dearest cX0_dearest 3 (some .int) ({ frames := 4, cells := 0, slots := 0, locals := 88 } : Room) (BW D cI cQ a S) [.ref (a 13)] (.int (oI (bDe S T R))) := by
  refine Rd.of (by decide) (Nat.le_of_ble_eq_true rfl) ?_
  intro p e s m args below meth c ls hC hr hlocks hB hl
  have hx := hC.1
  have hb := hC.2.1
  obtain ⟨hT, hR, hT8, hR6⟩ := id hI
  have hl : lv_has ls 3 [(0, .ref (a 13))] := hl
  refine lv_iconst (v := -1) hx hb dX0_dearest_0 (by decide) ?_
  refine lv_istore_n (lv' := [(1, .int (-1)), (0, .ref (a 13))]) hx hb dX0_dearest_1 rfl hl (by decide) rfl (fun ls hl => ?_)
  refine lv_iconst (v := 0) hx hb dX0_dearest_2 (by decide) ?_
  refine lv_istore_n (lv' := [(2, .int (0)), (1, .int (-1)), (0, .ref (a 13))]) hx hb dX0_dearest_3 rfl hl (by decide) rfl (fun ls hl => ?_)
  refine loopU (P := fun i => ∀ ls : Array Slot, lv_has ls 3 [(2, .int (nI i)), (1, .int (oI (amx (bPr S R) i))), (0, .ref (a 13))] → W p l e ({ frames := 4, cells := 0, slots := 0, locals := 88 } : Room) s m args below meth c s.heap [] 0 0 (MQ below (k2_QcV (.int (oI (bDe S T R)))) args s 0 0 (fun _ => False)) (F0 m 4 ls [])) (T) ?_ ?_ 0 (by omega) ls (by first | exact lv_sub hl [0, 1, 2] rfl | (simpa using lv_sub hl [0, 1, 2] rfl))
  · intro ls hl
    refine lv_iload_n hx hb dX0_dearest_4 rfl (lv_at hl 0 rfl) ?_
    refine lv_aload_n hx hb dX0_dearest_5 rfl (lv_at hl 2 rfl) ?_
    refine gB_towerCount hC hB hT dX0_dearest_6 ?_
    refine jge (i := T) (j := T) (tgt := 37) hC dX0_dearest_9 (by decide) rfl rfl (by omega) (by omega) (fun c1 => ?_) (fun c1 => ?_)
    · refine lv_iload_n hx hb dX0_dearest_37 rfl (lv_at hl 1 rfl) ?_
      exact rd_i hC hr hlocks dX0_dearest_38 (by rfl)
    · exfalso; omega
  · intro i hi ih ls hl
    rcases hq : amx (bPr S R) i with _ | b9
    · rw [hq] at hl
      have hl : lv_has ls 3 [(2, .int (nI i)), (1, .int (-1)), (0, .ref (a 13))] := hl
      refine lv_iload_n hx hb dX0_dearest_4 rfl (lv_at hl 0 rfl) ?_
      refine lv_aload_n hx hb dX0_dearest_5 rfl (lv_at hl 2 rfl) ?_
      refine gB_towerCount hC hB hT dX0_dearest_6 ?_
      refine jge (i := i) (j := T) (tgt := 37) hC dX0_dearest_9 (by decide) rfl rfl (by omega) (by omega) (fun c2 => ?_) (fun c2 => ?_)
      · exfalso; omega
      · refine lv_iload_n hx hb dX0_dearest_12 rfl (lv_at hl 1 rfl) ?_
        refine lv_if_lt (tgt := 29) hx hb dX0_dearest_13 (by decide) (fun c3 => ?_) (fun c3 => ?_)
        · refine lv_iload_n hx hb dX0_dearest_29 rfl (lv_at hl 0 rfl) ?_
          refine lv_istore_n (lv' := [(1, .int (nI i)), (2, .int (nI i)), (0, .ref (a 13))]) hx hb dX0_dearest_30 rfl hl (by decide) rfl (fun ls hl => ?_)
          refine lv_iinc (v := nI (i + 1)) (lv' := [(2, .int (nI (i + 1))), (1, .int (nI i)), (0, .ref (a 13))]) hx hb dX0_dearest_31 hl (k := 1) rfl (ninc i) (by decide) rfl (fun ls hl => ?_)
          refine lv_goto (tgt := 4) hx hb dX0_dearest_34 (by decide) ?_
          have e4 : oI (amx (bPr S R) (i + 1)) = nI i := by rw [amx_none hq] <;> rfl
          exact ih ls (by rw [e4]; exact lv_sub hl [0, 1, 2] rfl)
        · exfalso; revert c3; decide
    · rw [hq] at hl
      have hl : lv_has ls 3 [(2, .int (nI i)), (1, .int (nI b9)), (0, .ref (a 13))] := hl
      have hb9 := amx_lt i hq
      refine lv_iload_n hx hb dX0_dearest_4 rfl (lv_at hl 0 rfl) ?_
      refine lv_aload_n hx hb dX0_dearest_5 rfl (lv_at hl 2 rfl) ?_
      refine gB_towerCount hC hB hT dX0_dearest_6 ?_
      refine jge (i := i) (j := T) (tgt := 37) hC dX0_dearest_9 (by decide) rfl rfl (by omega) (by omega) (fun c5 => ?_) (fun c5 => ?_)
      · exfalso; omega
      · refine lv_iload_n hx hb dX0_dearest_12 rfl (lv_at hl 1 rfl) ?_
        refine lv_if_lt (tgt := 29) hx hb dX0_dearest_13 (by decide) (fun c6 => ?_) (fun c6 => ?_)
        · exfalso; exact absurd c6 (nI_pos (by omega))
        · refine lv_aload_n hx hb dX0_dearest_16 rfl (lv_at hl 2 rfl) ?_
          refine lv_iload_n hx hb dX0_dearest_17 rfl (lv_at hl 0 rfl) ?_
          refine k_X0_priceNow hC (c_X0_priceNow l D cI cQ a S hI (t := i) (by omega)) hB rfl ⟨rfl, rfl⟩ ⟨Nat.le_of_ble_eq_true rfl, Nat.le_of_ble_eq_true rfl⟩ ⟨Nat.zero_le _, Nat.zero_le _⟩ hl.1 rfl (Nat.le_of_ble_eq_true rfl) dX0_dearest_18 ?_
          refine lv_aload_n hx hb dX0_dearest_21 rfl (lv_at hl 2 rfl) ?_
          refine lv_iload_n hx hb dX0_dearest_22 rfl (lv_at hl 1 rfl) ?_
          refine k_X0_priceNow hC (c_X0_priceNow l D cI cQ a S hI (t := b9) (by omega)) hB rfl ⟨rfl, rfl⟩ ⟨Nat.le_of_ble_eq_true rfl, Nat.le_of_ble_eq_true rfl⟩ ⟨Nat.zero_le _, Nat.zero_le _⟩ hl.1 rfl (Nat.le_of_ble_eq_true rfl) dX0_dearest_23 ?_
          refine lv_icmp_le (tgt := 31) hx hb dX0_dearest_26 (by decide) (fun c7 => ?_) (fun c7 => ?_)
          · refine lv_iinc (v := nI (i + 1)) (lv' := [(2, .int (nI (i + 1))), (1, .int (nI b9)), (0, .ref (a 13))]) hx hb dX0_dearest_31 hl (k := 0) rfl (ninc i) (by decide) rfl (fun ls hl => ?_)
            refine lv_goto (tgt := 4) hx hb dX0_dearest_34 (by decide) ?_
            have e8 : oI (amx (bPr S R) (i + 1)) = nI b9 := by rw [amx_keep hq c7] <;> rfl
            exact ih ls (by rw [e8]; exact lv_sub hl [0, 1, 2] rfl)
          · refine lv_iload_n hx hb dX0_dearest_29 rfl (lv_at hl 0 rfl) ?_
            refine lv_istore_n (lv' := [(1, .int (nI i)), (2, .int (nI i)), (0, .ref (a 13))]) hx hb dX0_dearest_30 rfl hl (by decide) rfl (fun ls hl => ?_)
            refine lv_iinc (v := nI (i + 1)) (lv' := [(2, .int (nI (i + 1))), (1, .int (nI i)), (0, .ref (a 13))]) hx hb dX0_dearest_31 hl (k := 1) rfl (ninc i) (by decide) rfl (fun ls hl => ?_)
            refine lv_goto (tgt := 4) hx hb dX0_dearest_34 (by decide) ?_
            have e9 : oI (amx (bPr S R) (i + 1)) = nI i := by rw [amx_new hq c7] <;> rfl
            exact ih ls (by rw [e9]; exact lv_sub hl [0, 1, 2] rfl)
set_option maxHeartbeats 4000000 in
set_option maxRecDepth 100000 in
theorem c_X0_nextToStrike (l : Launch) (D : va_G) (cI cQ : ClassId) (a : Nat → Nat) (S : bS) {T R : Nat} (hI : BI S T R) : Rd l yX0_nextToStrike cX0_nextToStrike 3 (some .int) ({ frames := 0, cells := 0, slots := 0, locals := 0 } : Room) (BW D cI cQ a S) [.ref (a 13)] (.int (oI (bNx S T))) := by
  refine Rd.of (by decide) (Nat.le_of_ble_eq_true rfl) ?_
  intro p e s m args below meth c ls hC hr hlocks hB hl
  have hx := hC.1
  have hb := hC.2.1
  obtain ⟨hT, hR, hT8, hR6⟩ := id hI
  have hl : lv_has ls 3 [(0, .ref (a 13))] := hl
  refine lv_iconst (v := -1) hx hb dX0_nextToStrike_0 (by decide) ?_
  refine lv_istore_n (lv' := [(1, .int (-1)), (0, .ref (a 13))]) hx hb dX0_nextToStrike_1 rfl hl (by decide) rfl (fun ls hl => ?_)
  refine lv_iconst (v := 0) hx hb dX0_nextToStrike_2 (by decide) ?_
  refine lv_istore_n (lv' := [(2, .int (0)), (1, .int (-1)), (0, .ref (a 13))]) hx hb dX0_nextToStrike_3 rfl hl (by decide) rfl (fun ls hl => ?_)
  refine loopU (P := fun i => ∀ ls : Array Slot, lv_has ls 3 [(2, .int (nI i)), (1, .int (oI (amn (S 3) i))), (0, .ref (a 13))] → W p l e ({ frames := 0, cells := 0, slots := 0, locals := 0 } : Room) s m args below meth c s.heap [] 0 0 (MQ below (k2_QcV (.int (oI (bNx S T)))) args s 0 0 (fun _ => False)) (F0 m 4 ls [])) (T) ?_ ?_ 0 (by omega) ls (by first | exact lv_sub hl [0, 1, 2] rfl | (simpa using lv_sub hl [0, 1, 2] rfl))
  · intro ls hl
    refine lv_iload_n hx hb dX0_nextToStrike_4 rfl (lv_at hl 0 rfl) ?_
    refine lv_aload_n hx hb dX0_nextToStrike_5 rfl (lv_at hl 2 rfl) ?_
    refine gB_towerCount hC hB hT dX0_nextToStrike_6 ?_
    refine jge (i := T) (j := T) (tgt := 39) hC dX0_nextToStrike_9 (by decide) rfl rfl (by omega) (by omega) (fun c1 => ?_) (fun c1 => ?_)
    · refine lv_iload_n hx hb dX0_nextToStrike_39 rfl (lv_at hl 1 rfl) ?_
      exact rd_i hC hr hlocks dX0_nextToStrike_40 (by rfl)
    · exfalso; omega
  · intro i hi ih ls hl
    rcases hq : amn (S 3) i with _ | b9
    · rw [hq] at hl
      have hl : lv_has ls 3 [(2, .int (nI i)), (1, .int (-1)), (0, .ref (a 13))] := hl
      refine lv_iload_n hx hb dX0_nextToStrike_4 rfl (lv_at hl 0 rfl) ?_
      refine lv_aload_n hx hb dX0_nextToStrike_5 rfl (lv_at hl 2 rfl) ?_
      refine gB_towerCount hC hB hT dX0_nextToStrike_6 ?_
      refine jge (i := i) (j := T) (tgt := 39) hC dX0_nextToStrike_9 (by decide) rfl rfl (by omega) (by omega) (fun c2 => ?_) (fun c2 => ?_)
      · exfalso; omega
      · refine lv_iload_n hx hb dX0_nextToStrike_12 rfl (lv_at hl 1 rfl) ?_
        refine lv_if_lt (tgt := 31) hx hb dX0_nextToStrike_13 (by decide) (fun c3 => ?_) (fun c3 => ?_)
        · refine lv_iload_n hx hb dX0_nextToStrike_31 rfl (lv_at hl 0 rfl) ?_
          refine lv_istore_n (lv' := [(1, .int (nI i)), (2, .int (nI i)), (0, .ref (a 13))]) hx hb dX0_nextToStrike_32 rfl hl (by decide) rfl (fun ls hl => ?_)
          refine lv_iinc (v := nI (i + 1)) (lv' := [(2, .int (nI (i + 1))), (1, .int (nI i)), (0, .ref (a 13))]) hx hb dX0_nextToStrike_33 hl (k := 1) rfl (ninc i) (by decide) rfl (fun ls hl => ?_)
          refine lv_goto (tgt := 4) hx hb dX0_nextToStrike_36 (by decide) ?_
          have e4 : oI (amn (S 3) (i + 1)) = nI i := by rw [amn_none hq] <;> rfl
          exact ih ls (by rw [e4]; exact lv_sub hl [0, 1, 2] rfl)
        · exfalso; revert c3; decide
    · rw [hq] at hl
      have hl : lv_has ls 3 [(2, .int (nI i)), (1, .int (nI b9)), (0, .ref (a 13))] := hl
      have hb9 := amn_lt i hq
      refine lv_iload_n hx hb dX0_nextToStrike_4 rfl (lv_at hl 0 rfl) ?_
      refine lv_aload_n hx hb dX0_nextToStrike_5 rfl (lv_at hl 2 rfl) ?_
      refine gB_towerCount hC hB hT dX0_nextToStrike_6 ?_
      refine jge (i := i) (j := T) (tgt := 39) hC dX0_nextToStrike_9 (by decide) rfl rfl (by omega) (by omega) (fun c5 => ?_) (fun c5 => ?_)
      · exfalso; omega
      · refine lv_iload_n hx hb dX0_nextToStrike_12 rfl (lv_at hl 1 rfl) ?_
        refine lv_if_lt (tgt := 31) hx hb dX0_nextToStrike_13 (by decide) (fun c6 => ?_) (fun c6 => ?_)
        · exfalso; exact absurd c6 (nI_pos (by omega))
        · refine lv_aload_n hx hb dX0_nextToStrike_16 rfl (lv_at hl 2 rfl) ?_
          refine gB_untilStroke hC hB dX0_nextToStrike_17 ?_
          refine lv_iload_n hx hb dX0_nextToStrike_20 rfl (lv_at hl 0 rfl) ?_
          refine lB_untilStroke (i) hC hB rfl (by omega) rfl dX0_nextToStrike_21 ?_
          refine lv_aload_n hx hb dX0_nextToStrike_22 rfl (lv_at hl 2 rfl) ?_
          refine gB_untilStroke hC hB dX0_nextToStrike_23 ?_
          refine lv_iload_n hx hb dX0_nextToStrike_26 rfl (lv_at hl 1 rfl) ?_
          refine lB_untilStroke (b9) hC hB rfl (by omega) rfl dX0_nextToStrike_27 ?_
          refine lv_icmp_ge (tgt := 33) hx hb dX0_nextToStrike_28 (by decide) (fun c7 => ?_) (fun c7 => ?_)
          · refine lv_iinc (v := nI (i + 1)) (lv' := [(2, .int (nI (i + 1))), (1, .int (nI b9)), (0, .ref (a 13))]) hx hb dX0_nextToStrike_33 hl (k := 0) rfl (ninc i) (by decide) rfl (fun ls hl => ?_)
            refine lv_goto (tgt := 4) hx hb dX0_nextToStrike_36 (by decide) ?_
            have e8 : oI (amn (S 3) (i + 1)) = nI b9 := by rw [amn_keep hq c7] <;> rfl
            exact ih ls (by rw [e8]; exact lv_sub hl [0, 1, 2] rfl)
          · refine lv_iload_n hx hb dX0_nextToStrike_31 rfl (lv_at hl 0 rfl) ?_
            refine lv_istore_n (lv' := [(1, .int (nI i)), (2, .int (nI i)), (0, .ref (a 13))]) hx hb dX0_nextToStrike_32 rfl hl (by decide) rfl (fun ls hl => ?_)
            refine lv_iinc (v := nI (i + 1)) (lv' := [(2, .int (nI (i + 1))), (1, .int (nI i)), (0, .ref (a 13))]) hx hb dX0_nextToStrike_33 hl (k := 1) rfl (ninc i) (by decide) rfl (fun ls hl => ?_)
            refine lv_goto (tgt := 4) hx hb dX0_nextToStrike_36 (by decide) ?_
            have e9 : oI (amn (S 3) (i + 1)) = nI i := by rw [amn_new hq c7] <;> rfl
            exact ih ls (by rw [e9]; exact lv_sub hl [0, 1, 2] rfl)
set_option maxHeartbeats 4000000 in
set_option maxRecDepth 100000 in
theorem c_X0_richest (l : Launch) (D : va_G) (cI cQ : ClassId) (a : Nat → Nat) (S : bS) {T R : Nat} (hI : BI S T R) : Rd l yX0_richest cX0_richest 3 (some .int) ({ frames := 5, cells := 0, slots := 0, locals := 118 } : Room) (BW D cI cQ a S) [.ref (a 13)] (.int (oI (bRc S T R))) := by
  refine Rd.of (by decide) (Nat.le_of_ble_eq_true rfl) ?_
  intro p e s m args below meth c ls hC hr hlocks hB hl
  have hx := hC.1
  have hb := hC.2.1
  obtain ⟨hT, hR, hT8, hR6⟩ := id hI
  have hl : lv_has ls 3 [(0, .ref (a 13))] := hl
  refine lv_iconst (v := -1) hx hb dX0_richest_0 (by decide) ?_
  refine lv_istore_n (lv' := [(1, .int (-1)), (0, .ref (a 13))]) hx hb dX0_richest_1 rfl hl (by decide) rfl (fun ls hl => ?_)
  refine lv_iconst (v := 0) hx hb dX0_richest_2 (by decide) ?_
  refine lv_istore_n (lv' := [(2, .int (0)), (1, .int (-1)), (0, .ref (a 13))]) hx hb dX0_richest_3 rfl hl (by decide) rfl (fun ls hl => ?_)
  refine loopU (P := fun i => ∀ ls : Array Slot, lv_has ls 3 [(2, .int (nI i)), (1, .int (oI (amx (fun r => bWb S T R r 0) i))), (0, .ref (a 13))] → W p l e ({ frames := 5, cells := 0, slots := 0, locals := 118 } : Room) s m args below meth c s.heap [] 0 0 (MQ below (k2_QcV (.int (oI (bRc S T R)))) args s 0 0 (fun _ => False)) (F0 m 4 ls [])) (R) ?_ ?_ 0 (by omega) ls (by first | exact lv_sub hl [0, 1, 2] rfl | (simpa using lv_sub hl [0, 1, 2] rfl))
  · intro ls hl
    refine lv_iload_n hx hb dX0_richest_4 rfl (lv_at hl 0 rfl) ?_
    refine lv_aload_n hx hb dX0_richest_5 rfl (lv_at hl 2 rfl) ?_
    refine gB_traderCount hC hB hR dX0_richest_6 ?_
    refine jge (i := R) (j := R) (tgt := 39) hC dX0_richest_9 (by decide) rfl rfl (by omega) (by omega) (fun c1 => ?_) (fun c1 => ?_)
    · refine lv_iload_n hx hb dX0_richest_39 rfl (lv_at hl 1 rfl) ?_
      exact rd_i hC hr hlocks dX0_richest_40 (by rfl)
    · exfalso; omega
  · intro i hi ih ls hl
    rcases hq : amx (fun r => bWb S T R r 0) i with _ | b9
    · rw [hq] at hl
      have hl : lv_has ls 3 [(2, .int (nI i)), (1, .int (-1)), (0, .ref (a 13))] := hl
      refine lv_iload_n hx hb dX0_richest_4 rfl (lv_at hl 0 rfl) ?_
      refine lv_aload_n hx hb dX0_richest_5 rfl (lv_at hl 2 rfl) ?_
      refine gB_traderCount hC hB hR dX0_richest_6 ?_
      refine jge (i := i) (j := R) (tgt := 39) hC dX0_richest_9 (by decide) rfl rfl (by omega) (by omega) (fun c2 => ?_) (fun c2 => ?_)
      · exfalso; omega
      · refine lv_iload_n hx hb dX0_richest_12 rfl (lv_at hl 1 rfl) ?_
        refine lv_if_lt (tgt := 31) hx hb dX0_richest_13 (by decide) (fun c3 => ?_) (fun c3 => ?_)
        · refine lv_iload_n hx hb dX0_richest_31 rfl (lv_at hl 0 rfl) ?_
          refine lv_istore_n (lv' := [(1, .int (nI i)), (2, .int (nI i)), (0, .ref (a 13))]) hx hb dX0_richest_32 rfl hl (by decide) rfl (fun ls hl => ?_)
          refine lv_iinc (v := nI (i + 1)) (lv' := [(2, .int (nI (i + 1))), (1, .int (nI i)), (0, .ref (a 13))]) hx hb dX0_richest_33 hl (k := 1) rfl (ninc i) (by decide) rfl (fun ls hl => ?_)
          refine lv_goto (tgt := 4) hx hb dX0_richest_36 (by decide) ?_
          have e4 : oI (amx (fun r => bWb S T R r 0) (i + 1)) = nI i := by rw [amx_none hq] <;> rfl
          exact ih ls (by rw [e4]; exact lv_sub hl [0, 1, 2] rfl)
        · exfalso; revert c3; decide
    · rw [hq] at hl
      have hl : lv_has ls 3 [(2, .int (nI i)), (1, .int (nI b9)), (0, .ref (a 13))] := hl
      have hb9 := amx_lt i hq
      refine lv_iload_n hx hb dX0_richest_4 rfl (lv_at hl 0 rfl) ?_
      refine lv_aload_n hx hb dX0_richest_5 rfl (lv_at hl 2 rfl) ?_
      refine gB_traderCount hC hB hR dX0_richest_6 ?_
      refine jge (i := i) (j := R) (tgt := 39) hC dX0_richest_9 (by decide) rfl rfl (by omega) (by omega) (fun c5 => ?_) (fun c5 => ?_)
      · exfalso; omega
      · refine lv_iload_n hx hb dX0_richest_12 rfl (lv_at hl 1 rfl) ?_
        refine lv_if_lt (tgt := 31) hx hb dX0_richest_13 (by decide) (fun c6 => ?_) (fun c6 => ?_)
        · exfalso; exact absurd c6 (nI_pos (by omega))
        · refine lv_aload_n hx hb dX0_richest_16 rfl (lv_at hl 2 rfl) ?_
          refine lv_iload_n hx hb dX0_richest_17 rfl (lv_at hl 0 rfl) ?_
          refine lv_iconst (v := 0) hx hb dX0_richest_18 (by decide) ?_
          refine k_X0_worthBehind hC (c_X0_worthBehind l D cI cQ a S hI (r := i) (k := 0) (by omega)) hB rfl ⟨rfl, rfl⟩ ⟨Nat.le_of_ble_eq_true rfl, Nat.le_of_ble_eq_true rfl⟩ ⟨Nat.zero_le _, Nat.zero_le _⟩ hl.1 rfl (Nat.le_of_ble_eq_true rfl) dX0_richest_19 ?_
          refine lv_aload_n hx hb dX0_richest_22 rfl (lv_at hl 2 rfl) ?_
          refine lv_iload_n hx hb dX0_richest_23 rfl (lv_at hl 1 rfl) ?_
          refine lv_iconst (v := 0) hx hb dX0_richest_24 (by decide) ?_
          refine k_X0_worthBehind hC (c_X0_worthBehind l D cI cQ a S hI (r := b9) (k := 0) (by omega)) hB rfl ⟨rfl, rfl⟩ ⟨Nat.le_of_ble_eq_true rfl, Nat.le_of_ble_eq_true rfl⟩ ⟨Nat.zero_le _, Nat.zero_le _⟩ hl.1 rfl (Nat.le_of_ble_eq_true rfl) dX0_richest_25 ?_
          refine lv_icmp_le (tgt := 33) hx hb dX0_richest_28 (by decide) (fun c7 => ?_) (fun c7 => ?_)
          · refine lv_iinc (v := nI (i + 1)) (lv' := [(2, .int (nI (i + 1))), (1, .int (nI b9)), (0, .ref (a 13))]) hx hb dX0_richest_33 hl (k := 0) rfl (ninc i) (by decide) rfl (fun ls hl => ?_)
            refine lv_goto (tgt := 4) hx hb dX0_richest_36 (by decide) ?_
            have e8 : oI (amx (fun r => bWb S T R r 0) (i + 1)) = nI b9 := by rw [amx_keep hq c7] <;> rfl
            exact ih ls (by rw [e8]; exact lv_sub hl [0, 1, 2] rfl)
          · refine lv_iload_n hx hb dX0_richest_31 rfl (lv_at hl 0 rfl) ?_
            refine lv_istore_n (lv' := [(1, .int (nI i)), (2, .int (nI i)), (0, .ref (a 13))]) hx hb dX0_richest_32 rfl hl (by decide) rfl (fun ls hl => ?_)
            refine lv_iinc (v := nI (i + 1)) (lv' := [(2, .int (nI (i + 1))), (1, .int (nI i)), (0, .ref (a 13))]) hx hb dX0_richest_33 hl (k := 1) rfl (ninc i) (by decide) rfl (fun ls hl => ?_)
            refine lv_goto (tgt := 4) hx hb dX0_richest_36 (by decide) ?_
            have e9 : oI (amx (fun r => bWb S T R r 0) (i + 1)) = nI i := by rw [amx_new hq c7] <;> rfl
            exact ih ls (by rw [e9]; exact lv_sub hl [0, 1, 2] rfl)
set_option maxHeartbeats 4000000 in
set_option maxRecDepth 100000 in
theorem c_X0_inDebt (l : Launch) (D : va_G) (cI cQ : ClassId) (a : Nat → Nat) (S : bS) {T R : Nat} (hI : BI S T R) : Rd l yX0_inDebt cX0_inDebt 3 (some .int) ({ frames := 0, cells := 0, slots := 0, locals := 0 } : Room) (BW D cI cQ a S) [.ref (a 13)] (.int (bOw S R)) := by
  refine Rd.of (by decide) (Nat.le_of_ble_eq_true rfl) ?_
  intro p e s m args below meth c ls hC hr hlocks hB hl
  have hx := hC.1
  have hb := hC.2.1
  obtain ⟨hT, hR, hT8, hR6⟩ := id hI
  have hl : lv_has ls 3 [(0, .ref (a 13))] := hl
  refine lv_iconst (v := 0) hx hb dX0_inDebt_0 (by decide) ?_
  refine lv_istore_n (lv' := [(1, .int (0)), (0, .ref (a 13))]) hx hb dX0_inDebt_1 rfl hl (by decide) rfl (fun ls hl => ?_)
  refine lv_iconst (v := 0) hx hb dX0_inDebt_2 (by decide) ?_
  refine lv_istore_n (lv' := [(2, .int (0)), (1, .int (0)), (0, .ref (a 13))]) hx hb dX0_inDebt_3 rfl hl (by decide) rfl (fun ls hl => ?_)
  refine loopU (P := fun i => ∀ ls : Array Slot, lv_has ls 3 [(2, .int (nI i)), (1, .int (bOw S i)), (0, .ref (a 13))] → W p l e ({ frames := 0, cells := 0, slots := 0, locals := 0 } : Room) s m args below meth c s.heap [] 0 0 (MQ below (k2_QcV (.int (bOw S R))) args s 0 0 (fun _ => False)) (F0 m 4 ls [])) (R) ?_ ?_ 0 (by omega) ls (by first | exact lv_sub hl [0, 1, 2] rfl | (simpa using lv_sub hl [0, 1, 2] rfl))
  · intro ls hl
    refine lv_iload_n hx hb dX0_inDebt_4 rfl (lv_at hl 0 rfl) ?_
    refine lv_aload_n hx hb dX0_inDebt_5 rfl (lv_at hl 2 rfl) ?_
    refine gB_traderCount hC hB hR dX0_inDebt_6 ?_
    refine jge (i := R) (j := R) (tgt := 30) hC dX0_inDebt_9 (by decide) rfl rfl (by omega) (by omega) (fun c1 => ?_) (fun c1 => ?_)
    · refine lv_iload_n hx hb dX0_inDebt_30 rfl (lv_at hl 1 rfl) ?_
      exact rd_i hC hr hlocks dX0_inDebt_31 (by rfl)
    · exfalso; omega
  · intro i hi ih ls hl
    refine lv_iload_n hx hb dX0_inDebt_4 rfl (lv_at hl 0 rfl) ?_
    refine lv_aload_n hx hb dX0_inDebt_5 rfl (lv_at hl 2 rfl) ?_
    refine gB_traderCount hC hB hR dX0_inDebt_6 ?_
    refine jge (i := i) (j := R) (tgt := 30) hC dX0_inDebt_9 (by decide) rfl rfl (by omega) (by omega) (fun c2 => ?_) (fun c2 => ?_)
    · exfalso; omega
    · refine lv_aload_n hx hb dX0_inDebt_12 rfl (lv_at hl 2 rfl) ?_
      refine gB_purse hC hB dX0_inDebt_13 ?_
      refine lv_iload_n hx hb dX0_inDebt_16 rfl (lv_at hl 0 rfl) ?_
      refine lB_purse (i) hC hB rfl (by omega) rfl dX0_inDebt_17 ?_
      refine lv_if_ge (tgt := 24) hx hb dX0_inDebt_18 (by decide) (fun c3 => ?_) (fun c3 => ?_)
      · refine lv_iinc (v := nI (i + 1)) (lv' := [(2, .int (nI (i + 1))), (1, .int (bOw S i)), (0, .ref (a 13))]) hx hb dX0_inDebt_24 hl (k := 0) rfl (ninc i) (by decide) rfl (fun ls hl => ?_)
        refine lv_goto (tgt := 4) hx hb dX0_inDebt_27 (by decide) ?_
        have e4 : bOw S (i + 1) = bOw S i := by show _ + (if _ then _ else _) = _; rw [if_pos c3, Int32.add_zero]; rfl
        exact ih ls (by rw [e4]; exact lv_sub hl [0, 1, 2] rfl)
      · refine lv_iinc (v := (bOw S i) + 1) (lv' := [(1, .int ((bOw S i) + 1)), (2, .int (nI i)), (0, .ref (a 13))]) hx hb dX0_inDebt_21 hl (k := 1) rfl (rfl) (by decide) rfl (fun ls hl => ?_)
        refine lv_iinc (v := nI (i + 1)) (lv' := [(2, .int (nI (i + 1))), (1, .int ((bOw S i) + 1)), (0, .ref (a 13))]) hx hb dX0_inDebt_24 hl (k := 1) rfl (ninc i) (by decide) rfl (fun ls hl => ?_)
        refine lv_goto (tgt := 4) hx hb dX0_inDebt_27 (by decide) ?_
        have e5 : bOw S (i + 1) = (bOw S i) + 1 := by show _ + (if _ then _ else _) = _; rw [if_neg c3]; rfl
        exact ih ls (by rw [e5]; exact lv_sub hl [0, 1, 2] rfl)
set_option maxHeartbeats 4000000 in
set_option maxRecDepth 100000 in
theorem c_X0_bestToBuy (l : Launch) (D : va_G) (cI cQ : ClassId) (a : Nat → Nat) (S : bS) {T R : Nat} (hI : BI S T R) : Rd l yX0_bestToBuy cX0_bestToBuy 4 (some .int) ({ frames := 5, cells := 0, slots := 0, locals := 110 } : Room) (BW D cI cQ a S) [.ref (a 13)] (.int (oI (bBu S T R))) := by
  refine Rd.of (by decide) (Nat.le_of_ble_eq_true rfl) ?_
  intro p e s m args below meth c ls hC hr hlocks hB hl
  have hx := hC.1
  have hb := hC.2.1
  obtain ⟨hT, hR, hT8, hR6⟩ := id hI
  have hl : lv_has ls 4 [(0, .ref (a 13))] := hl
  refine lv_iconst (v := -1) hx hb dX0_bestToBuy_0 (by decide) ?_
  refine lv_istore_n (lv' := [(1, .int (-1)), (0, .ref (a 13))]) hx hb dX0_bestToBuy_1 rfl hl (by decide) rfl (fun ls hl => ?_)
  refine lv_iconst (v := 0) hx hb dX0_bestToBuy_2 (by decide) ?_
  refine lv_istore_n (lv' := [(2, .int (0)), (1, .int (-1)), (0, .ref (a 13))]) hx hb dX0_bestToBuy_3 rfl hl (by decide) rfl (fun ls hl => ?_)
  refine loopU (P := fun i => ∀ ls : Array Slot, lv_has ls 4 [(2, .int (nI i)), (1, .int (oI (ab (bRi S R) i))), (0, .ref (a 13))] → W p l e ({ frames := 5, cells := 0, slots := 0, locals := 110 } : Room) s m args below meth c s.heap [] 0 0 (MQ below (k2_QcV (.int (oI (bBu S T R)))) args s 0 0 (fun _ => False)) (F0 m 4 ls [])) (T) ?_ ?_ 0 (by omega) ls (by first | exact lv_sub hl [0, 1, 2] rfl | (simpa using lv_sub hl [0, 1, 2] rfl))
  · intro ls hl
    refine lv_iload_n hx hb dX0_bestToBuy_4 rfl (lv_at hl 0 rfl) ?_
    refine lv_aload_n hx hb dX0_bestToBuy_5 rfl (lv_at hl 2 rfl) ?_
    refine gB_towerCount hC hB hT dX0_bestToBuy_6 ?_
    refine jge (i := T) (j := T) (tgt := 43) hC dX0_bestToBuy_9 (by decide) rfl rfl (by omega) (by omega) (fun c1 => ?_) (fun c1 => ?_)
    · refine lv_iload_n hx hb dX0_bestToBuy_43 rfl (lv_at hl 1 rfl) ?_
      exact rd_i hC hr hlocks dX0_bestToBuy_44 (by rfl)
    · exfalso; omega
  · intro i hi ih ls hl
    rcases hq : ab (bRi S R) i with _ | b9
    · rw [hq] at hl
      have hl : lv_has ls 4 [(2, .int (nI i)), (1, .int (-1)), (0, .ref (a 13))] := hl
      refine lv_iload_n hx hb dX0_bestToBuy_4 rfl (lv_at hl 0 rfl) ?_
      refine lv_aload_n hx hb dX0_bestToBuy_5 rfl (lv_at hl 2 rfl) ?_
      refine gB_towerCount hC hB hT dX0_bestToBuy_6 ?_
      refine jge (i := i) (j := T) (tgt := 43) hC dX0_bestToBuy_9 (by decide) rfl rfl (by omega) (by omega) (fun c2 => ?_) (fun c2 => ?_)
      · exfalso; omega
      · refine lv_aload_n hx hb dX0_bestToBuy_12 rfl (lv_at hl 2 rfl) ?_
        refine lv_iload_n hx hb dX0_bestToBuy_13 rfl (lv_at hl 0 rfl) ?_
        refine k_X0_riseUntilStroke hC (c_X0_riseUntilStroke l D cI cQ a S hI (t := i) (by omega)) hB rfl ⟨rfl, rfl⟩ ⟨Nat.le_of_ble_eq_true rfl, Nat.le_of_ble_eq_true rfl⟩ ⟨Nat.zero_le _, Nat.zero_le _⟩ hl.1 rfl (Nat.le_of_ble_eq_true rfl) dX0_bestToBuy_14 ?_
        refine lv_istore_n (lv' := [(3, .int (bRi S R i)), (2, .int (nI i)), (1, .int (-1)), (0, .ref (a 13))]) hx hb dX0_bestToBuy_17 rfl hl (by decide) rfl (fun ls hl => ?_)
        refine lv_iload_n hx hb dX0_bestToBuy_18 rfl (lv_at hl 0 rfl) ?_
        refine lv_if_le (tgt := 37) hx hb dX0_bestToBuy_19 (by decide) (fun c3 => ?_) (fun c3 => ?_)
        · refine lv_iinc (v := nI (i + 1)) (lv' := [(2, .int (nI (i + 1))), (3, .int (bRi S R i)), (1, .int (-1)), (0, .ref (a 13))]) hx hb dX0_bestToBuy_37 hl (k := 1) rfl (ninc i) (by decide) rfl (fun ls hl => ?_)
          refine lv_goto (tgt := 4) hx hb dX0_bestToBuy_40 (by decide) ?_
          have e4 : oI (ab (bRi S R) (i + 1)) = -1 := by rw [ab_skip c3, hq] <;> rfl
          exact ih ls (by rw [e4]; exact lv_sub hl [0, 2, 3] rfl)
        · refine lv_iload_n hx hb dX0_bestToBuy_22 rfl (lv_at hl 2 rfl) ?_
          refine lv_if_lt (tgt := 35) hx hb dX0_bestToBuy_23 (by decide) (fun c5 => ?_) (fun c5 => ?_)
          · refine lv_iload_n hx hb dX0_bestToBuy_35 rfl (lv_at hl 1 rfl) ?_
            refine lv_istore_n (lv' := [(1, .int (nI i)), (3, .int (bRi S R i)), (2, .int (nI i)), (0, .ref (a 13))]) hx hb dX0_bestToBuy_36 rfl hl (by decide) rfl (fun ls hl => ?_)
            refine lv_iinc (v := nI (i + 1)) (lv' := [(2, .int (nI (i + 1))), (1, .int (nI i)), (3, .int (bRi S R i)), (0, .ref (a 13))]) hx hb dX0_bestToBuy_37 hl (k := 2) rfl (ninc i) (by decide) rfl (fun ls hl => ?_)
            refine lv_goto (tgt := 4) hx hb dX0_bestToBuy_40 (by decide) ?_
            have e6 : oI (ab (bRi S R) (i + 1)) = nI i := by rw [ab_none c3 hq] <;> rfl
            exact ih ls (by rw [e6]; exact lv_sub hl [0, 1, 3] rfl)
          · exfalso; revert c5; decide
    · rw [hq] at hl
      have hl : lv_has ls 4 [(2, .int (nI i)), (1, .int (nI b9)), (0, .ref (a 13))] := hl
      have hb9 := ab_lt i hq
      refine lv_iload_n hx hb dX0_bestToBuy_4 rfl (lv_at hl 0 rfl) ?_
      refine lv_aload_n hx hb dX0_bestToBuy_5 rfl (lv_at hl 2 rfl) ?_
      refine gB_towerCount hC hB hT dX0_bestToBuy_6 ?_
      refine jge (i := i) (j := T) (tgt := 43) hC dX0_bestToBuy_9 (by decide) rfl rfl (by omega) (by omega) (fun c7 => ?_) (fun c7 => ?_)
      · exfalso; omega
      · refine lv_aload_n hx hb dX0_bestToBuy_12 rfl (lv_at hl 2 rfl) ?_
        refine lv_iload_n hx hb dX0_bestToBuy_13 rfl (lv_at hl 0 rfl) ?_
        refine k_X0_riseUntilStroke hC (c_X0_riseUntilStroke l D cI cQ a S hI (t := i) (by omega)) hB rfl ⟨rfl, rfl⟩ ⟨Nat.le_of_ble_eq_true rfl, Nat.le_of_ble_eq_true rfl⟩ ⟨Nat.zero_le _, Nat.zero_le _⟩ hl.1 rfl (Nat.le_of_ble_eq_true rfl) dX0_bestToBuy_14 ?_
        refine lv_istore_n (lv' := [(3, .int (bRi S R i)), (2, .int (nI i)), (1, .int (nI b9)), (0, .ref (a 13))]) hx hb dX0_bestToBuy_17 rfl hl (by decide) rfl (fun ls hl => ?_)
        refine lv_iload_n hx hb dX0_bestToBuy_18 rfl (lv_at hl 0 rfl) ?_
        refine lv_if_le (tgt := 37) hx hb dX0_bestToBuy_19 (by decide) (fun c8 => ?_) (fun c8 => ?_)
        · refine lv_iinc (v := nI (i + 1)) (lv' := [(2, .int (nI (i + 1))), (3, .int (bRi S R i)), (1, .int (nI b9)), (0, .ref (a 13))]) hx hb dX0_bestToBuy_37 hl (k := 1) rfl (ninc i) (by decide) rfl (fun ls hl => ?_)
          refine lv_goto (tgt := 4) hx hb dX0_bestToBuy_40 (by decide) ?_
          have e9 : oI (ab (bRi S R) (i + 1)) = nI b9 := by rw [ab_skip c8, hq] <;> rfl
          exact ih ls (by rw [e9]; exact lv_sub hl [0, 2, 3] rfl)
        · refine lv_iload_n hx hb dX0_bestToBuy_22 rfl (lv_at hl 2 rfl) ?_
          refine lv_if_lt (tgt := 35) hx hb dX0_bestToBuy_23 (by decide) (fun c10 => ?_) (fun c10 => ?_)
          · exfalso; exact absurd c10 (nI_pos (by omega))
          · refine lv_iload_n hx hb dX0_bestToBuy_26 rfl (lv_at hl 0 rfl) ?_
            refine lv_aload_n hx hb dX0_bestToBuy_27 rfl (lv_at hl 3 rfl) ?_
            refine lv_iload_n hx hb dX0_bestToBuy_28 rfl (lv_at hl 2 rfl) ?_
            refine k_X0_riseUntilStroke hC (c_X0_riseUntilStroke l D cI cQ a S hI (t := b9) (by omega)) hB rfl ⟨rfl, rfl⟩ ⟨Nat.le_of_ble_eq_true rfl, Nat.le_of_ble_eq_true rfl⟩ ⟨Nat.zero_le _, Nat.zero_le _⟩ hl.1 rfl (Nat.le_of_ble_eq_true rfl) dX0_bestToBuy_29 ?_
            refine lv_icmp_le (tgt := 37) hx hb dX0_bestToBuy_32 (by decide) (fun c11 => ?_) (fun c11 => ?_)
            · refine lv_iinc (v := nI (i + 1)) (lv' := [(2, .int (nI (i + 1))), (3, .int (bRi S R i)), (1, .int (nI b9)), (0, .ref (a 13))]) hx hb dX0_bestToBuy_37 hl (k := 1) rfl (ninc i) (by decide) rfl (fun ls hl => ?_)
              refine lv_goto (tgt := 4) hx hb dX0_bestToBuy_40 (by decide) ?_
              have e12 : oI (ab (bRi S R) (i + 1)) = nI b9 := by rw [ab_keep c8 hq c11] <;> rfl
              exact ih ls (by rw [e12]; exact lv_sub hl [0, 2, 3] rfl)
            · refine lv_iload_n hx hb dX0_bestToBuy_35 rfl (lv_at hl 1 rfl) ?_
              refine lv_istore_n (lv' := [(1, .int (nI i)), (3, .int (bRi S R i)), (2, .int (nI i)), (0, .ref (a 13))]) hx hb dX0_bestToBuy_36 rfl hl (by decide) rfl (fun ls hl => ?_)
              refine lv_iinc (v := nI (i + 1)) (lv' := [(2, .int (nI (i + 1))), (1, .int (nI i)), (3, .int (bRi S R i)), (0, .ref (a 13))]) hx hb dX0_bestToBuy_37 hl (k := 2) rfl (ninc i) (by decide) rfl (fun ls hl => ?_)
              refine lv_goto (tgt := 4) hx hb dX0_bestToBuy_40 (by decide) ?_
              have e13 : oI (ab (bRi S R) (i + 1)) = nI i := by rw [ab_new c8 hq c11] <;> rfl
              exact ih ls (by rw [e13]; exact lv_sub hl [0, 1, 3] rfl)
set_option maxHeartbeats 4000000 in
set_option maxRecDepth 100000 in
theorem c_X0_bestToSell (l : Launch) (D : va_G) (cI cQ : ClassId) (a : Nat → Nat) (S : bS) {T R : Nat} {r t M : Nat} (hI : BI S T R) (hr9 : r < R) (ht : t < T) (hM : mn 9 (S (7 + r) t + 9) = nI M) (hM9 : M ≤ 9) : Rd l yX0_bestToSell cX0_bestToSell 6 (some .int) ({ frames := 5, cells := 0, slots := 0, locals := 114 } : Room) (BW D cI cQ a S) [.ref (a 13), .int (nI r), .int (nI t)] (.int (nI (bsl (bYi S R r t) M))) := by
  refine Rd.of (by decide) (Nat.le_of_ble_eq_true rfl) ?_
  intro p e s m args below meth c ls hC hr hlocks hB hl
  have hx := hC.1
  have hb := hC.2.1
  obtain ⟨hT, hR, hT8, hR6⟩ := id hI
  have hl : lv_has ls 6 [(0, .ref (a 13)), (1, .int (nI r)), (2, .int (nI t))] := hl
  refine lv_aload_n hx hb dX0_bestToSell_0 rfl (lv_at hl 0 rfl) ?_
  refine lv_iload_n hx hb dX0_bestToSell_1 rfl (lv_at hl 1 rfl) ?_
  refine kn_X0_requireTrader hC (c_X0_requireTrader l D cI cQ a S hI (r := r) (by omega)) hB rfl ⟨rfl, rfl⟩ ⟨Nat.le_of_ble_eq_true rfl, Nat.le_of_ble_eq_true rfl⟩ ⟨Nat.zero_le _, Nat.zero_le _⟩ hl.1 rfl (Nat.le_of_ble_eq_true rfl) dX0_bestToSell_2 ?_
  refine lv_aload_n hx hb dX0_bestToSell_5 rfl (lv_at hl 0 rfl) ?_
  refine lv_iload_n hx hb dX0_bestToSell_6 rfl (lv_at hl 2 rfl) ?_
  refine kn_X0_requireTower hC (c_X0_requireTower l D cI cQ a S hI (t := t) (by omega)) hB rfl ⟨rfl, rfl⟩ ⟨Nat.le_of_ble_eq_true rfl, Nat.le_of_ble_eq_true rfl⟩ ⟨Nat.zero_le _, Nat.zero_le _⟩ hl.1 rfl (Nat.le_of_ble_eq_true rfl) dX0_bestToSell_7 ?_
  refine lv_bipush (v := 9) hx hb dX0_bestToSell_10 (by decide) ?_
  refine lv_aload_n hx hb dX0_bestToSell_12 rfl (lv_at hl 0 rfl) ?_
  refine gB_held hC hB dX0_bestToSell_13 ?_
  refine lv_iload_n hx hb dX0_bestToSell_16 rfl (lv_at hl 1 rfl) ?_
  refine lB_row (r) hC hB rfl (by omega) dX0_bestToSell_17 ?_
  refine lv_iload_n hx hb dX0_bestToSell_18 rfl (lv_at hl 2 rfl) ?_
  refine lB_held (r) (t) hC hB (by omega) rfl (by omega) rfl dX0_bestToSell_19 ?_
  refine lv_bipush (v := 9) hx hb dX0_bestToSell_20 (by decide) ?_
  refine lv_iadd hx hb dX0_bestToSell_22 ?_
  refine k_X0_min hC hl.1 ⟨Nat.le_of_ble_eq_true rfl, Nat.le_of_ble_eq_true rfl⟩ ⟨Nat.le_of_ble_eq_true rfl, Nat.le_of_ble_eq_true rfl⟩ dX0_bestToSell_23 ?_
  refine lv_istore_n (lv' := [(3, .int (mn 9 ((S (7 + r) t) + 9))), (0, .ref (a 13)), (1, .int (nI r)), (2, .int (nI t))]) hx hb dX0_bestToSell_26 rfl hl (by decide) rfl (fun ls hl => ?_)
  rw [hM] at hl
  refine lv_iconst (v := 0) hx hb dX0_bestToSell_27 (by decide) ?_
  refine lv_istore (lv' := [(4, .int (0)), (3, .int (nI M)), (0, .ref (a 13)), (1, .int (nI r)), (2, .int (nI t))]) hx hb dX0_bestToSell_28 hl (by decide) rfl (fun ls hl => ?_)
  refine lv_iconst (v := 1) hx hb dX0_bestToSell_30 (by decide) ?_
  refine lv_istore (lv' := [(5, .int (1)), (4, .int (0)), (3, .int (nI M)), (0, .ref (a 13)), (1, .int (nI r)), (2, .int (nI t))]) hx hb dX0_bestToSell_31 hl (by decide) rfl (fun ls hl => ?_)
  refine loopU (P := fun i => ∀ ls : Array Slot, lv_has ls 6 [(5, .int (nI (i + 1))), (4, .int (nI (bsl (bYi S R r t) i))), (0, .ref (a 13)), (1, .int (nI r)), (2, .int (nI t)), (3, .int (nI M))] → W p l e ({ frames := 5, cells := 0, slots := 0, locals := 114 } : Room) s m args below meth c s.heap [] 0 0 (MQ below (k2_QcV (.int (nI (bsl (bYi S R r t) M)))) args s 0 0 (fun _ => False)) (F0 m 33 ls [])) (M) ?_ ?_ 0 (by omega) ls (by first | exact lv_sub hl [0, 1, 3, 4, 5, 2] rfl | (simpa using lv_sub hl [0, 1, 3, 4, 5, 2] rfl))
  · intro ls hl
    refine lv_iload hx hb dX0_bestToSell_33 (lv_at hl 0 rfl) ?_
    refine lv_iload_n hx hb dX0_bestToSell_35 rfl (lv_at hl 5 rfl) ?_
    refine jgt (i := M + 1) (j := M) (tgt := 68) hC dX0_bestToSell_36 (by decide) rfl rfl (by omega) (by omega) (fun c1 => ?_) (fun c1 => ?_)
    · refine lv_iload hx hb dX0_bestToSell_68 (lv_at hl 1 rfl) ?_
      exact rd_i hC hr hlocks dX0_bestToSell_70 (by rfl)
    · exfalso; omega
  · intro i hi ih ls hl
    refine lv_iload hx hb dX0_bestToSell_33 (lv_at hl 0 rfl) ?_
    refine lv_iload_n hx hb dX0_bestToSell_35 rfl (lv_at hl 5 rfl) ?_
    refine jgt (i := i + 1) (j := M) (tgt := 68) hC dX0_bestToSell_36 (by decide) rfl rfl (by omega) (by omega) (fun c2 => ?_) (fun c2 => ?_)
    · exfalso; omega
    · refine lv_aload_n hx hb dX0_bestToSell_39 rfl (lv_at hl 2 rfl) ?_
      refine lv_iload_n hx hb dX0_bestToSell_40 rfl (lv_at hl 3 rfl) ?_
      refine lv_iload_n hx hb dX0_bestToSell_41 rfl (lv_at hl 4 rfl) ?_
      refine lv_iload hx hb dX0_bestToSell_42 (lv_at hl 0 rfl) ?_
      refine k_X0_yieldOfSelling hC (c_X0_yieldOfSelling l D cI cQ a S hI (r := r) (t := t) (k := i + 1) (by omega) (by omega)) hB rfl ⟨rfl, rfl⟩ ⟨Nat.le_of_ble_eq_true rfl, Nat.le_of_ble_eq_true rfl⟩ ⟨Nat.zero_le _, Nat.zero_le _⟩ hl.1 rfl (Nat.le_of_ble_eq_true rfl) dX0_bestToSell_44 ?_
      refine lv_aload_n hx hb dX0_bestToSell_47 rfl (lv_at hl 2 rfl) ?_
      refine lv_iload_n hx hb dX0_bestToSell_48 rfl (lv_at hl 3 rfl) ?_
      refine lv_iload_n hx hb dX0_bestToSell_49 rfl (lv_at hl 4 rfl) ?_
      refine lv_iload hx hb dX0_bestToSell_50 (lv_at hl 1 rfl) ?_
      refine k_X0_yieldOfSelling hC (c_X0_yieldOfSelling l D cI cQ a S hI (r := r) (t := t) (k := bsl (bYi S R r t) i) (by omega) (by omega)) hB rfl ⟨rfl, rfl⟩ ⟨Nat.le_of_ble_eq_true rfl, Nat.le_of_ble_eq_true rfl⟩ ⟨Nat.zero_le _, Nat.zero_le _⟩ hl.1 rfl (Nat.le_of_ble_eq_true rfl) dX0_bestToSell_52 ?_
      refine lv_icmp_le (tgt := 62) hx hb dX0_bestToSell_55 (by decide) (fun c3 => ?_) (fun c3 => ?_)
      · refine lv_iinc (v := nI (i + 1 + 1)) (lv' := [(5, .int (nI (i + 1 + 1))), (4, .int (nI (bsl (bYi S R r t) i))), (0, .ref (a 13)), (1, .int (nI r)), (2, .int (nI t)), (3, .int (nI M))]) hx hb dX0_bestToSell_62 hl (k := 0) rfl (ninc (i + 1)) (by decide) rfl (fun ls hl => ?_)
        refine lv_goto (tgt := 33) hx hb dX0_bestToSell_65 (by decide) ?_
        have e4 : nI (bsl (bYi S R r t) (i + 1)) = nI (bsl (bYi S R r t) i) := by show nI (if _ then _ else _) = _; rw [if_pos c3] <;> rfl
        exact ih ls (by rw [e4]; exact lv_sub hl [0, 1, 2, 3, 4, 5] rfl)
      · refine lv_iload hx hb dX0_bestToSell_58 (lv_at hl 0 rfl) ?_
        refine lv_istore (lv' := [(4, .int (nI (i + 1))), (5, .int (nI (i + 1))), (0, .ref (a 13)), (1, .int (nI r)), (2, .int (nI t)), (3, .int (nI M))]) hx hb dX0_bestToSell_60 hl (by decide) rfl (fun ls hl => ?_)
        refine lv_iinc (v := nI (i + 1 + 1)) (lv' := [(5, .int (nI (i + 1 + 1))), (4, .int (nI (i + 1))), (0, .ref (a 13)), (1, .int (nI r)), (2, .int (nI t)), (3, .int (nI M))]) hx hb dX0_bestToSell_62 hl (k := 1) rfl (ninc (i + 1)) (by decide) rfl (fun ls hl => ?_)
        refine lv_goto (tgt := 33) hx hb dX0_bestToSell_65 (by decide) ?_
        have e5 : nI (bsl (bYi S R r t) (i + 1)) = nI (i + 1) := by show nI (if _ then _ else _) = _; rw [if_neg c3] <;> rfl
        exact ih ls (by rw [e5]; exact lv_sub hl [0, 1, 2, 3, 4, 5] rfl)
set_option maxHeartbeats 4000000 in
set_option maxRecDepth 100000 in
theorem c_X0_secondsUntilDebt (l : Launch) (D : va_G) (cI cQ : ClassId) (a : Nat → Nat) (S : bS) {T R : Nat} {r : Nat} (hI : BI S T R) (hr9 : r < R) : Rd l yX0_secondsUntilDebt cX0_secondsUntilDebt 4 (some .int) ({ frames := 5, cells := 0, slots := 0, locals := 113 } : Room) (BW D cI cQ a S) [.ref (a 13), .int (nI r)] (.int (bDb S T R r)) := by
  refine Rd.of (by decide) (Nat.le_of_ble_eq_true rfl) ?_
  intro p e s m args below meth c ls hC hr hlocks hB hl
  have hx := hC.1
  have hb := hC.2.1
  obtain ⟨hT, hR, hT8, hR6⟩ := id hI
  have hl : lv_has ls 4 [(0, .ref (a 13)), (1, .int (nI r))] := hl
  refine lv_aload_n hx hb dX0_secondsUntilDebt_0 rfl (lv_at hl 0 rfl) ?_
  refine lv_iload_n hx hb dX0_secondsUntilDebt_1 rfl (lv_at hl 1 rfl) ?_
  refine kn_X0_requireTrader hC (c_X0_requireTrader l D cI cQ a S hI (r := r) (by omega)) hB rfl ⟨rfl, rfl⟩ ⟨Nat.le_of_ble_eq_true rfl, Nat.le_of_ble_eq_true rfl⟩ ⟨Nat.zero_le _, Nat.zero_le _⟩ hl.1 rfl (Nat.le_of_ble_eq_true rfl) dX0_secondsUntilDebt_2 ?_
  refine lv_aload_n hx hb dX0_secondsUntilDebt_5 rfl (lv_at hl 0 rfl) ?_
  refine gB_purse hC hB dX0_secondsUntilDebt_6 ?_
  refine lv_iload_n hx hb dX0_secondsUntilDebt_9 rfl (lv_at hl 1 rfl) ?_
  refine lB_purse (r) hC hB rfl (by omega) rfl dX0_secondsUntilDebt_10 ?_
  refine lv_istore_n (lv' := [(2, .int (S 5 r)), (0, .ref (a 13)), (1, .int (nI r))]) hx hb dX0_secondsUntilDebt_11 rfl hl (by decide) rfl (fun ls hl => ?_)
  refine lv_iconst (v := 0) hx hb dX0_secondsUntilDebt_12 (by decide) ?_
  refine lv_istore_n (lv' := [(3, .int (0)), (2, .int (S 5 r)), (0, .ref (a 13)), (1, .int (nI r))]) hx hb dX0_secondsUntilDebt_13 rfl hl (by decide) rfl (fun ls hl => ?_)
  refine loopU (P := fun i => (∀ j : Nat, j < i → 0 ≤ sma (S 5 r) (bCi S T R r) (j + 1)) → ∀ ls : Array Slot, lv_has ls 4 [(3, .int (nI i)), (2, .int (sma (S 5 r) (bCi S T R r) i)), (0, .ref (a 13)), (1, .int (nI r))] → W p l e ({ frames := 5, cells := 0, slots := 0, locals := 113 } : Room) s m args below meth c s.heap [] 0 0 (MQ below (k2_QcV (.int (bDb S T R r))) args s 0 0 (fun _ => False)) (F0 m 14 ls [])) (101) ?_ ?_ 0 (by omega) (fun j h9 => absurd h9 (by omega)) ls (by first | exact lv_sub hl [0, 1, 2, 3] rfl | (simpa using lv_sub hl [0, 1, 2, 3] rfl))
  · intro han ls hl
    refine lv_iload_n hx hb dX0_secondsUntilDebt_14 rfl (lv_at hl 0 rfl) ?_
    refine lv_bipush (v := 100) hx hb dX0_secondsUntilDebt_15 (by decide) ?_
    refine jgt (i := 101) (j := 100) (tgt := 41) hC dX0_secondsUntilDebt_17 (by decide) rfl rfl (by omega) (by omega) (fun c1 => ?_) (fun c1 => ?_)
    · refine lv_iconst (v := -1) hx hb dX0_secondsUntilDebt_41 (by decide) ?_
      exact rd_i hC hr hlocks dX0_secondsUntilDebt_42 (by exact (dbl_miss 101 0 (fun j _ h2 => han j (by omega))).symm)
    · exfalso; omega
  · intro i hi ih han ls hl
    refine lv_iload_n hx hb dX0_secondsUntilDebt_14 rfl (lv_at hl 0 rfl) ?_
    refine lv_bipush (v := 100) hx hb dX0_secondsUntilDebt_15 (by decide) ?_
    refine jgt (i := i) (j := 100) (tgt := 41) hC dX0_secondsUntilDebt_17 (by decide) rfl rfl (by omega) (by omega) (fun c2 => ?_) (fun c2 => ?_)
    · exfalso; omega
    · refine lv_iload_n hx hb dX0_secondsUntilDebt_20 rfl (lv_at hl 1 rfl) ?_
      refine lv_aload_n hx hb dX0_secondsUntilDebt_21 rfl (lv_at hl 2 rfl) ?_
      refine lv_iload_n hx hb dX0_secondsUntilDebt_22 rfl (lv_at hl 3 rfl) ?_
      refine lv_iload_n hx hb dX0_secondsUntilDebt_23 rfl (lv_at hl 0 rfl) ?_
      refine k_X0_closedIn hC (c_X0_closedIn l D cI cQ a S hI (r := r) (k := i) (by omega)) hB rfl ⟨rfl, rfl⟩ ⟨Nat.le_of_ble_eq_true rfl, Nat.le_of_ble_eq_true rfl⟩ ⟨Nat.zero_le _, Nat.zero_le _⟩ hl.1 rfl (Nat.le_of_ble_eq_true rfl) dX0_secondsUntilDebt_24 ?_
      refine lv_iadd hx hb dX0_secondsUntilDebt_27 ?_
      refine lv_istore_n (lv' := [(2, .int ((sma (S 5 r) (bCi S T R r) i) + (bCi S T R r i))), (3, .int (nI i)), (0, .ref (a 13)), (1, .int (nI r))]) hx hb dX0_secondsUntilDebt_28 rfl hl (by decide) rfl (fun ls hl => ?_)
      refine lv_iload_n hx hb dX0_secondsUntilDebt_29 rfl (lv_at hl 0 rfl) ?_
      refine lv_if_ge (tgt := 35) hx hb dX0_secondsUntilDebt_30 (by decide) (fun c3 => ?_) (fun c3 => ?_)
      · refine lv_iinc (v := nI (i + 1)) (lv' := [(3, .int (nI (i + 1))), (2, .int ((sma (S 5 r) (bCi S T R r) i) + (bCi S T R r i))), (0, .ref (a 13)), (1, .int (nI r))]) hx hb dX0_secondsUntilDebt_35 hl (k := 1) rfl (ninc i) (by decide) rfl (fun ls hl => ?_)
        refine lv_goto (tgt := 14) hx hb dX0_secondsUntilDebt_38 (by decide) ?_
        exact ih (fun j h9 => by rcases (show j < i ∨ j = i by omega) with h8 | h8; exact han j h8; rw [h8]; exact c3) ls (lv_sub hl [0, 1, 2, 3] rfl)
      · refine lv_iload_n hx hb dX0_secondsUntilDebt_33 rfl (lv_at hl 1 rfl) ?_
        exact rd_i hC hr hlocks dX0_secondsUntilDebt_34 (by exact (dbl_hit (g := fun k => sma (S 5 r) (bCi S T R r) (k + 1)) c3 101 0 (by omega) (by omega) (fun j _ h2 => han j h2)).symm)
set_option maxHeartbeats 4000000 in
set_option maxRecDepth 100000 in
theorem c_X0_mixedTower (l : Launch) (D : va_G) (cI cQ : ClassId) (a : Nat → Nat) (S : bS) {T R : Nat} {t : Nat} (d : Int64) (hI : BI S T R) (ht : t < T) : Rd l yX0_mixedTower cX0_mixedTower 6 (some .long) ({ frames := 4, cells := 0, slots := 0, locals := 89 } : Room) (BW D cI cQ a S) [.ref (a 13), .long (d), .int (nI t)] (.long (bMt S R d t)) := by
  refine Rd.of (by decide) (Nat.le_of_ble_eq_true rfl) ?_
  intro p e s m args below meth c ls hC hr hlocks hB hl
  have hx := hC.1
  have hb := hC.2.1
  obtain ⟨hT, hR, hT8, hR6⟩ := id hI
  have hl : lv_has ls 6 [(0, .ref (a 13)), (1, .long (d)), (3, .int (nI t))] := hl
  refine lv_lload_n hx hb dX0_mixedTower_0 rfl (lv_at hl 1 rfl) ?_
  refine lv_aload_n hx hb dX0_mixedTower_1 rfl (lv_at hl 0 rfl) ?_
  refine gB_silence hC hB dX0_mixedTower_2 ?_
  refine lv_iload_n hx hb dX0_mixedTower_5 rfl (lv_at hl 2 rfl) ?_
  refine lB_silence (t) hC hB rfl (by omega) rfl dX0_mixedTower_6 ?_
  refine k_X0_mixed hC (c_X0_mixed l (d) (S 2 t)) mov_T trivial rfl ⟨rfl, rfl⟩ ⟨Nat.le_of_ble_eq_true rfl, Nat.le_of_ble_eq_true rfl⟩ ⟨Nat.zero_le _, Nat.zero_le _⟩ hl.1 rfl (Nat.le_of_ble_eq_true rfl) dX0_mixedTower_7 ?_
  refine lv_lstore (lv' := [(4, .long (mi d (S 2 t))), (0, .ref (a 13)), (1, .long (d)), (3, .int (nI t))]) hx hb dX0_mixedTower_10 hl (by decide) rfl (fun ls hl => ?_)
  refine lv_lload hx hb dX0_mixedTower_12 (lv_at hl 0 rfl) ?_
  refine lv_aload_n hx hb dX0_mixedTower_14 rfl (lv_at hl 1 rfl) ?_
  refine lv_iload_n hx hb dX0_mixedTower_15 rfl (lv_at hl 3 rfl) ?_
  refine k_X0_dovesNow hC (c_X0_dovesNow l D cI cQ a S hI (t := t) (by omega)) hB rfl ⟨rfl, rfl⟩ ⟨Nat.le_of_ble_eq_true rfl, Nat.le_of_ble_eq_true rfl⟩ ⟨Nat.zero_le _, Nat.zero_le _⟩ hl.1 rfl (Nat.le_of_ble_eq_true rfl) dX0_mixedTower_16 ?_
  refine k_X0_mixed hC (c_X0_mixed l (mi d (S 2 t)) (bDv S R t)) mov_T trivial rfl ⟨rfl, rfl⟩ ⟨Nat.le_of_ble_eq_true rfl, Nat.le_of_ble_eq_true rfl⟩ ⟨Nat.zero_le _, Nat.zero_le _⟩ hl.1 rfl (Nat.le_of_ble_eq_true rfl) dX0_mixedTower_19 ?_
  refine lv_lstore (lv' := [(4, .long (mi (mi d (S 2 t)) (bDv S R t))), (0, .ref (a 13)), (1, .long (d)), (3, .int (nI t))]) hx hb dX0_mixedTower_22 hl (by decide) rfl (fun ls hl => ?_)
  refine lv_lload hx hb dX0_mixedTower_24 (lv_at hl 0 rfl) ?_
  refine lv_aload_n hx hb dX0_mixedTower_26 rfl (lv_at hl 1 rfl) ?_
  refine lv_iload_n hx hb dX0_mixedTower_27 rfl (lv_at hl 3 rfl) ?_
  refine k_X0_priceNow hC (c_X0_priceNow l D cI cQ a S hI (t := t) (by omega)) hB rfl ⟨rfl, rfl⟩ ⟨Nat.le_of_ble_eq_true rfl, Nat.le_of_ble_eq_true rfl⟩ ⟨Nat.zero_le _, Nat.zero_le _⟩ hl.1 rfl (Nat.le_of_ble_eq_true rfl) dX0_mixedTower_28 ?_
  refine k_X0_mixed hC (c_X0_mixed l (mi (mi d (S 2 t)) (bDv S R t)) (bPr S R t)) mov_T trivial rfl ⟨rfl, rfl⟩ ⟨Nat.le_of_ble_eq_true rfl, Nat.le_of_ble_eq_true rfl⟩ ⟨Nat.zero_le _, Nat.zero_le _⟩ hl.1 rfl (Nat.le_of_ble_eq_true rfl) dX0_mixedTower_31 ?_
  refine lv_lstore (lv' := [(4, .long (mi (mi (mi d (S 2 t)) (bDv S R t)) (bPr S R t))), (0, .ref (a 13)), (1, .long (d)), (3, .int (nI t))]) hx hb dX0_mixedTower_34 hl (by decide) rfl (fun ls hl => ?_)
  refine lv_lload hx hb dX0_mixedTower_36 (lv_at hl 0 rfl) ?_
  refine lv_aload_n hx hb dX0_mixedTower_38 rfl (lv_at hl 1 rfl) ?_
  refine gB_untilStroke hC hB dX0_mixedTower_39 ?_
  refine lv_iload_n hx hb dX0_mixedTower_42 rfl (lv_at hl 3 rfl) ?_
  refine lB_untilStroke (t) hC hB rfl (by omega) rfl dX0_mixedTower_43 ?_
  refine k_X0_mixed hC (c_X0_mixed l (mi (mi (mi d (S 2 t)) (bDv S R t)) (bPr S R t)) (S 3 t)) mov_T trivial rfl ⟨rfl, rfl⟩ ⟨Nat.le_of_ble_eq_true rfl, Nat.le_of_ble_eq_true rfl⟩ ⟨Nat.zero_le _, Nat.zero_le _⟩ hl.1 rfl (Nat.le_of_ble_eq_true rfl) dX0_mixedTower_44 ?_
  refine lv_lstore (lv' := [(4, .long (mi (mi (mi (mi d (S 2 t)) (bDv S R t)) (bPr S R t)) (S 3 t))), (0, .ref (a 13)), (1, .long (d)), (3, .int (nI t))]) hx hb dX0_mixedTower_47 hl (by decide) rfl (fun ls hl => ?_)
  refine lv_lload hx hb dX0_mixedTower_49 (lv_at hl 0 rfl) ?_
  refine lv_aload_n hx hb dX0_mixedTower_51 rfl (lv_at hl 1 rfl) ?_
  refine gB_strokes hC hB dX0_mixedTower_52 ?_
  refine lv_iload_n hx hb dX0_mixedTower_55 rfl (lv_at hl 3 rfl) ?_
  refine lB_strokes (t) hC hB rfl (by omega) rfl dX0_mixedTower_56 ?_
  refine k_X0_mixed hC (c_X0_mixed l (mi (mi (mi (mi d (S 2 t)) (bDv S R t)) (bPr S R t)) (S 3 t)) (S 4 t)) mov_T trivial rfl ⟨rfl, rfl⟩ ⟨Nat.le_of_ble_eq_true rfl, Nat.le_of_ble_eq_true rfl⟩ ⟨Nat.zero_le _, Nat.zero_le _⟩ hl.1 rfl (Nat.le_of_ble_eq_true rfl) dX0_mixedTower_57 ?_
  refine lv_lstore (lv' := [(4, .long (mi (mi (mi (mi (mi d (S 2 t)) (bDv S R t)) (bPr S R t)) (S 3 t)) (S 4 t))), (0, .ref (a 13)), (1, .long (d)), (3, .int (nI t))]) hx hb dX0_mixedTower_60 hl (by decide) rfl (fun ls hl => ?_)
  refine lv_lload hx hb dX0_mixedTower_62 (lv_at hl 0 rfl) ?_
  refine lv_aload_n hx hb dX0_mixedTower_64 rfl (lv_at hl 1 rfl) ?_
  refine lv_iload_n hx hb dX0_mixedTower_65 rfl (lv_at hl 3 rfl) ?_
  refine k_X0_heldByAll hC (c_X0_heldByAll l D cI cQ a S hI (t := t) (by omega)) hB rfl ⟨rfl, rfl⟩ ⟨Nat.le_of_ble_eq_true rfl, Nat.le_of_ble_eq_true rfl⟩ ⟨Nat.zero_le _, Nat.zero_le _⟩ hl.1 rfl (Nat.le_of_ble_eq_true rfl) dX0_mixedTower_66 ?_
  refine k_X0_mixed hC (c_X0_mixed l (mi (mi (mi (mi (mi d (S 2 t)) (bDv S R t)) (bPr S R t)) (S 3 t)) (S 4 t)) (bOp S R t)) mov_T trivial rfl ⟨rfl, rfl⟩ ⟨Nat.le_of_ble_eq_true rfl, Nat.le_of_ble_eq_true rfl⟩ ⟨Nat.zero_le _, Nat.zero_le _⟩ hl.1 rfl (Nat.le_of_ble_eq_true rfl) dX0_mixedTower_69 ?_
  refine lv_lstore (lv' := [(4, .long (mi (mi (mi (mi (mi (mi d (S 2 t)) (bDv S R t)) (bPr S R t)) (S 3 t)) (S 4 t)) (bOp S R t))), (0, .ref (a 13)), (1, .long (d)), (3, .int (nI t))]) hx hb dX0_mixedTower_72 hl (by decide) rfl (fun ls hl => ?_)
  refine lv_lload hx hb dX0_mixedTower_74 (lv_at hl 0 rfl) ?_
  refine lv_aload_n hx hb dX0_mixedTower_76 rfl (lv_at hl 1 rfl) ?_
  refine lv_iload_n hx hb dX0_mixedTower_77 rfl (lv_at hl 3 rfl) ?_
  refine k_X0_closing hC (c_X0_closing l D cI cQ a S hI (t := t) (by omega)) hB rfl ⟨rfl, rfl⟩ ⟨Nat.le_of_ble_eq_true rfl, Nat.le_of_ble_eq_true rfl⟩ ⟨Nat.zero_le _, Nat.zero_le _⟩ hl.1 rfl (Nat.le_of_ble_eq_true rfl) dX0_mixedTower_78 ?_
  refine k_X0_mixed hC (c_X0_mixed l (mi (mi (mi (mi (mi (mi d (S 2 t)) (bDv S R t)) (bPr S R t)) (S 3 t)) (S 4 t)) (bOp S R t)) (bCl S R t)) mov_T trivial rfl ⟨rfl, rfl⟩ ⟨Nat.le_of_ble_eq_true rfl, Nat.le_of_ble_eq_true rfl⟩ ⟨Nat.zero_le _, Nat.zero_le _⟩ hl.1 rfl (Nat.le_of_ble_eq_true rfl) dX0_mixedTower_81 ?_
  exact rd_l hC hr hlocks dX0_mixedTower_84 (by rfl)
set_option maxHeartbeats 4000000 in
set_option maxRecDepth 100000 in
theorem c_X0_mixedTrader (l : Launch) (D : va_G) (cI cQ : ClassId) (a : Nat → Nat) (S : bS) {T R : Nat} {r : Nat} (d : Int64) (hI : BI S T R) (hr9 : r < R) : Rd l yX0_mixedTrader cX0_mixedTrader 7 (some .long) ({ frames := 5, cells := 0, slots := 0, locals := 118 } : Room) (BW D cI cQ a S) [.ref (a 13), .long (d), .int (nI r)] (.long (bMr S T R d r)) := by
  refine Rd.of (by decide) (Nat.le_of_ble_eq_true rfl) ?_
  intro p e s m args below meth c ls hC hr hlocks hB hl
  have hx := hC.1
  have hb := hC.2.1
  obtain ⟨hT, hR, hT8, hR6⟩ := id hI
  have hl : lv_has ls 7 [(0, .ref (a 13)), (1, .long (d)), (3, .int (nI r))] := hl
  refine lv_lload_n hx hb dX0_mixedTrader_0 rfl (lv_at hl 1 rfl) ?_
  refine lv_aload_n hx hb dX0_mixedTrader_1 rfl (lv_at hl 0 rfl) ?_
  refine gB_purse hC hB dX0_mixedTrader_2 ?_
  refine lv_iload_n hx hb dX0_mixedTrader_5 rfl (lv_at hl 2 rfl) ?_
  refine lB_purse (r) hC hB rfl (by omega) rfl dX0_mixedTrader_6 ?_
  refine k_X0_mixed hC (c_X0_mixed l (d) (S 5 r)) mov_T trivial rfl ⟨rfl, rfl⟩ ⟨Nat.le_of_ble_eq_true rfl, Nat.le_of_ble_eq_true rfl⟩ ⟨Nat.zero_le _, Nat.zero_le _⟩ hl.1 rfl (Nat.le_of_ble_eq_true rfl) dX0_mixedTrader_7 ?_
  refine lv_lstore (lv' := [(4, .long (mi d (S 5 r))), (0, .ref (a 13)), (1, .long (d)), (3, .int (nI r))]) hx hb dX0_mixedTrader_10 hl (by decide) rfl (fun ls hl => ?_)
  refine lv_lload hx hb dX0_mixedTrader_12 (lv_at hl 0 rfl) ?_
  refine lv_aload_n hx hb dX0_mixedTrader_14 rfl (lv_at hl 1 rfl) ?_
  refine lv_iload_n hx hb dX0_mixedTrader_15 rfl (lv_at hl 3 rfl) ?_
  refine lv_iconst (v := 0) hx hb dX0_mixedTrader_16 (by decide) ?_
  refine k_X0_worthBehind hC (c_X0_worthBehind l D cI cQ a S hI (r := r) (k := 0) (by omega)) hB rfl ⟨rfl, rfl⟩ ⟨Nat.le_of_ble_eq_true rfl, Nat.le_of_ble_eq_true rfl⟩ ⟨Nat.zero_le _, Nat.zero_le _⟩ hl.1 rfl (Nat.le_of_ble_eq_true rfl) dX0_mixedTrader_17 ?_
  refine k_X0_mixed hC (c_X0_mixed l (mi d (S 5 r)) (bWb S T R r 0)) mov_T trivial rfl ⟨rfl, rfl⟩ ⟨Nat.le_of_ble_eq_true rfl, Nat.le_of_ble_eq_true rfl⟩ ⟨Nat.zero_le _, Nat.zero_le _⟩ hl.1 rfl (Nat.le_of_ble_eq_true rfl) dX0_mixedTrader_20 ?_
  refine lv_lstore (lv' := [(4, .long (mi (mi d (S 5 r)) (bWb S T R r 0))), (0, .ref (a 13)), (1, .long (d)), (3, .int (nI r))]) hx hb dX0_mixedTrader_23 hl (by decide) rfl (fun ls hl => ?_)
  refine lv_lload hx hb dX0_mixedTrader_25 (lv_at hl 0 rfl) ?_
  refine lv_aload_n hx hb dX0_mixedTrader_27 rfl (lv_at hl 1 rfl) ?_
  refine lv_iload_n hx hb dX0_mixedTrader_28 rfl (lv_at hl 3 rfl) ?_
  refine k_X0_shortTowers hC (c_X0_shortTowers l D cI cQ a S hI (r := r) (by omega)) hB rfl ⟨rfl, rfl⟩ ⟨Nat.le_of_ble_eq_true rfl, Nat.le_of_ble_eq_true rfl⟩ ⟨Nat.zero_le _, Nat.zero_le _⟩ hl.1 rfl (Nat.le_of_ble_eq_true rfl) dX0_mixedTrader_29 ?_
  refine k_X0_mixed hC (c_X0_mixed l (mi (mi d (S 5 r)) (bWb S T R r 0)) (bSh S T r)) mov_T trivial rfl ⟨rfl, rfl⟩ ⟨Nat.le_of_ble_eq_true rfl, Nat.le_of_ble_eq_true rfl⟩ ⟨Nat.zero_le _, Nat.zero_le _⟩ hl.1 rfl (Nat.le_of_ble_eq_true rfl) dX0_mixedTrader_32 ?_
  refine lv_lstore (lv' := [(4, .long (mi (mi (mi d (S 5 r)) (bWb S T R r 0)) (bSh S T r))), (0, .ref (a 13)), (1, .long (d)), (3, .int (nI r))]) hx hb dX0_mixedTrader_35 hl (by decide) rfl (fun ls hl => ?_)
  refine lv_iconst (v := 0) hx hb dX0_mixedTrader_37 (by decide) ?_
  refine lv_istore (lv' := [(6, .int (0)), (4, .long (mi (mi (mi d (S 5 r)) (bWb S T R r 0)) (bSh S T r))), (0, .ref (a 13)), (1, .long (d)), (3, .int (nI r))]) hx hb dX0_mixedTrader_38 hl (by decide) rfl (fun ls hl => ?_)
  refine loopU (P := fun i => ∀ ls : Array Slot, lv_has ls 7 [(6, .int (nI i)), (4, .long (lfo (fun d t => mi d (S (7 + r) t)) (mi (mi (mi d (S 5 r)) (bWb S T R r 0)) (bSh S T r)) i)), (0, .ref (a 13)), (3, .int (nI r))] → W p l e ({ frames := 5, cells := 0, slots := 0, locals := 118 } : Room) s m args below meth c s.heap [] 0 0 (MQ below (k2_QcV (.long (bMr S T R d r))) args s 0 0 (fun _ => False)) (F0 m 40 ls [])) (T) ?_ ?_ 0 (by omega) ls (by first | exact lv_sub hl [0, 1, 2, 4] rfl | (simpa using lv_sub hl [0, 1, 2, 4] rfl))
  · intro ls hl
    refine lv_iload hx hb dX0_mixedTrader_40 (lv_at hl 0 rfl) ?_
    refine lv_aload_n hx hb dX0_mixedTrader_42 rfl (lv_at hl 2 rfl) ?_
    refine gB_towerCount hC hB hT dX0_mixedTrader_43 ?_
    refine jge (i := T) (j := T) (tgt := 71) hC dX0_mixedTrader_46 (by decide) rfl rfl (by omega) (by omega) (fun c1 => ?_) (fun c1 => ?_)
    · refine lv_lload hx hb dX0_mixedTrader_71 (lv_at hl 1 rfl) ?_
      exact rd_l hC hr hlocks dX0_mixedTrader_73 (by rfl)
    · exfalso; omega
  · intro i hi ih ls hl
    refine lv_iload hx hb dX0_mixedTrader_40 (lv_at hl 0 rfl) ?_
    refine lv_aload_n hx hb dX0_mixedTrader_42 rfl (lv_at hl 2 rfl) ?_
    refine gB_towerCount hC hB hT dX0_mixedTrader_43 ?_
    refine jge (i := i) (j := T) (tgt := 71) hC dX0_mixedTrader_46 (by decide) rfl rfl (by omega) (by omega) (fun c2 => ?_) (fun c2 => ?_)
    · exfalso; omega
    · refine lv_lload hx hb dX0_mixedTrader_49 (lv_at hl 1 rfl) ?_
      refine lv_aload_n hx hb dX0_mixedTrader_51 rfl (lv_at hl 2 rfl) ?_
      refine gB_held hC hB dX0_mixedTrader_52 ?_
      refine lv_iload_n hx hb dX0_mixedTrader_55 rfl (lv_at hl 3 rfl) ?_
      refine lB_row (r) hC hB rfl (by omega) dX0_mixedTrader_56 ?_
      refine lv_iload hx hb dX0_mixedTrader_57 (lv_at hl 0 rfl) ?_
      refine lB_held (r) (i) hC hB (by omega) rfl (by omega) rfl dX0_mixedTrader_59 ?_
      refine k_X0_mixed hC (c_X0_mixed l (lfo (fun d t => mi d (S (7 + r) t)) (mi (mi (mi d (S 5 r)) (bWb S T R r 0)) (bSh S T r)) i) (S (7 + r) i)) mov_T trivial rfl ⟨rfl, rfl⟩ ⟨Nat.le_of_ble_eq_true rfl, Nat.le_of_ble_eq_true rfl⟩ ⟨Nat.zero_le _, Nat.zero_le _⟩ hl.1 rfl (Nat.le_of_ble_eq_true rfl) dX0_mixedTrader_60 ?_
      refine lv_lstore (lv' := [(4, .long (mi (lfo (fun d t => mi d (S (7 + r) t)) (mi (mi (mi d (S 5 r)) (bWb S T R r 0)) (bSh S T r)) i) (S (7 + r) i))), (6, .int (nI i)), (0, .ref (a 13)), (3, .int (nI r))]) hx hb dX0_mixedTrader_63 hl (by decide) rfl (fun ls hl => ?_)
      refine lv_iinc (v := nI (i + 1)) (lv' := [(6, .int (nI (i + 1))), (4, .long (mi (lfo (fun d t => mi d (S (7 + r) t)) (mi (mi (mi d (S 5 r)) (bWb S T R r 0)) (bSh S T r)) i) (S (7 + r) i))), (0, .ref (a 13)), (3, .int (nI r))]) hx hb dX0_mixedTrader_65 hl (k := 1) rfl (ninc i) (by decide) rfl (fun ls hl => ?_)
      refine lv_goto (tgt := 40) hx hb dX0_mixedTrader_68 (by decide) ?_
      exact ih ls (lv_sub hl [0, 1, 2, 3] rfl)
set_option maxHeartbeats 4000000 in
set_option maxRecDepth 100000 in
theorem c_X0_digest (l : Launch) (D : va_G) (cI cQ : ClassId) (a : Nat → Nat) (S : bS) {T R : Nat} (hI : BI S T R) : Rd l yX0_digest cX0_digest 4 (some .long) ({ frames := 6, cells := 0, slots := 0, locals := 144 } : Room) (BW D cI cQ a S) [.ref (a 13)] (.long (bDg S T R)) := by
  refine Rd.of (by decide) (Nat.le_of_ble_eq_true rfl) ?_
  intro p e s m args below meth c ls hC hr hlocks hB hl
  have hx := hC.1
  have hb := hC.2.1
  obtain ⟨hT, hR, hT8, hR6⟩ := id hI
  have hl : lv_has ls 4 [(0, .ref (a 13))] := hl
  refine lv_ldc2 hx hb hC.2.2.2.1 (v := 2081) (hC.2.2.2.2 _ (List.mem_of_getElem? (i := 534) (by decide +kernel))) dX0_digest_0 ?_
  refine lv_aload_n hx hb dX0_digest_3 rfl (lv_at hl 0 rfl) ?_
  refine gB_second hC hB rfl dX0_digest_4 ?_
  refine k_X0_mixed hC (c_X0_mixed l (2081) (S 6 0)) mov_T trivial rfl ⟨rfl, rfl⟩ ⟨Nat.le_of_ble_eq_true rfl, Nat.le_of_ble_eq_true rfl⟩ ⟨Nat.zero_le _, Nat.zero_le _⟩ hl.1 rfl (Nat.le_of_ble_eq_true rfl) dX0_digest_7 ?_
  refine lv_lstore_n (lv' := [(1, .long (mi 2081 (S 6 0))), (0, .ref (a 13))]) hx hb dX0_digest_10 rfl hl (by decide) rfl (fun ls hl => ?_)
  refine lv_lload_n hx hb dX0_digest_11 rfl (lv_at hl 0 rfl) ?_
  refine lv_aload_n hx hb dX0_digest_12 rfl (lv_at hl 1 rfl) ?_
  refine gB_towerCount hC hB hT dX0_digest_13 ?_
  refine k_X0_mixed hC (c_X0_mixed l (mi 2081 (S 6 0)) (nI T)) mov_T trivial rfl ⟨rfl, rfl⟩ ⟨Nat.le_of_ble_eq_true rfl, Nat.le_of_ble_eq_true rfl⟩ ⟨Nat.zero_le _, Nat.zero_le _⟩ hl.1 rfl (Nat.le_of_ble_eq_true rfl) dX0_digest_16 ?_
  refine lv_lstore_n (lv' := [(1, .long (mi (mi 2081 (S 6 0)) (nI T))), (0, .ref (a 13))]) hx hb dX0_digest_19 rfl hl (by decide) rfl (fun ls hl => ?_)
  refine lv_lload_n hx hb dX0_digest_20 rfl (lv_at hl 0 rfl) ?_
  refine lv_aload_n hx hb dX0_digest_21 rfl (lv_at hl 1 rfl) ?_
  refine gB_traderCount hC hB hR dX0_digest_22 ?_
  refine k_X0_mixed hC (c_X0_mixed l (mi (mi 2081 (S 6 0)) (nI T)) (nI R)) mov_T trivial rfl ⟨rfl, rfl⟩ ⟨Nat.le_of_ble_eq_true rfl, Nat.le_of_ble_eq_true rfl⟩ ⟨Nat.zero_le _, Nat.zero_le _⟩ hl.1 rfl (Nat.le_of_ble_eq_true rfl) dX0_digest_25 ?_
  refine lv_lstore_n (lv' := [(1, .long (mi (mi (mi 2081 (S 6 0)) (nI T)) (nI R))), (0, .ref (a 13))]) hx hb dX0_digest_28 rfl hl (by decide) rfl (fun ls hl => ?_)
  refine lv_lload_n hx hb dX0_digest_29 rfl (lv_at hl 0 rfl) ?_
  refine lv_aload_n hx hb dX0_digest_30 rfl (lv_at hl 1 rfl) ?_
  refine k_X0_dearest hC (c_X0_dearest l D cI cQ a S hI) hB rfl ⟨rfl, rfl⟩ ⟨Nat.le_of_ble_eq_true rfl, Nat.le_of_ble_eq_true rfl⟩ ⟨Nat.zero_le _, Nat.zero_le _⟩ hl.1 rfl (Nat.le_of_ble_eq_true rfl) dX0_digest_31 ?_
  refine k_X0_mixed hC (c_X0_mixed l (mi (mi (mi 2081 (S 6 0)) (nI T)) (nI R)) (oI (bDe S T R))) mov_T trivial rfl ⟨rfl, rfl⟩ ⟨Nat.le_of_ble_eq_true rfl, Nat.le_of_ble_eq_true rfl⟩ ⟨Nat.zero_le _, Nat.zero_le _⟩ hl.1 rfl (Nat.le_of_ble_eq_true rfl) dX0_digest_34 ?_
  refine lv_lstore_n (lv' := [(1, .long (mi (mi (mi (mi 2081 (S 6 0)) (nI T)) (nI R)) (oI (bDe S T R)))), (0, .ref (a 13))]) hx hb dX0_digest_37 rfl hl (by decide) rfl (fun ls hl => ?_)
  refine lv_lload_n hx hb dX0_digest_38 rfl (lv_at hl 0 rfl) ?_
  refine lv_aload_n hx hb dX0_digest_39 rfl (lv_at hl 1 rfl) ?_
  refine k_X0_nextToStrike hC (c_X0_nextToStrike l D cI cQ a S hI) hB rfl ⟨rfl, rfl⟩ ⟨Nat.le_of_ble_eq_true rfl, Nat.le_of_ble_eq_true rfl⟩ ⟨Nat.zero_le _, Nat.zero_le _⟩ hl.1 rfl (Nat.le_of_ble_eq_true rfl) dX0_digest_40 ?_
  refine k_X0_mixed hC (c_X0_mixed l (mi (mi (mi (mi 2081 (S 6 0)) (nI T)) (nI R)) (oI (bDe S T R))) (oI (bNx S T))) mov_T trivial rfl ⟨rfl, rfl⟩ ⟨Nat.le_of_ble_eq_true rfl, Nat.le_of_ble_eq_true rfl⟩ ⟨Nat.zero_le _, Nat.zero_le _⟩ hl.1 rfl (Nat.le_of_ble_eq_true rfl) dX0_digest_43 ?_
  refine lv_lstore_n (lv' := [(1, .long (mi (mi (mi (mi (mi 2081 (S 6 0)) (nI T)) (nI R)) (oI (bDe S T R))) (oI (bNx S T)))), (0, .ref (a 13))]) hx hb dX0_digest_46 rfl hl (by decide) rfl (fun ls hl => ?_)
  refine lv_lload_n hx hb dX0_digest_47 rfl (lv_at hl 0 rfl) ?_
  refine lv_aload_n hx hb dX0_digest_48 rfl (lv_at hl 1 rfl) ?_
  refine k_X0_richest hC (c_X0_richest l D cI cQ a S hI) hB rfl ⟨rfl, rfl⟩ ⟨Nat.le_of_ble_eq_true rfl, Nat.le_of_ble_eq_true rfl⟩ ⟨Nat.zero_le _, Nat.zero_le _⟩ hl.1 rfl (Nat.le_of_ble_eq_true rfl) dX0_digest_49 ?_
  refine k_X0_mixed hC (c_X0_mixed l (mi (mi (mi (mi (mi 2081 (S 6 0)) (nI T)) (nI R)) (oI (bDe S T R))) (oI (bNx S T))) (oI (bRc S T R))) mov_T trivial rfl ⟨rfl, rfl⟩ ⟨Nat.le_of_ble_eq_true rfl, Nat.le_of_ble_eq_true rfl⟩ ⟨Nat.zero_le _, Nat.zero_le _⟩ hl.1 rfl (Nat.le_of_ble_eq_true rfl) dX0_digest_52 ?_
  refine lv_lstore_n (lv' := [(1, .long (mi (mi (mi (mi (mi (mi 2081 (S 6 0)) (nI T)) (nI R)) (oI (bDe S T R))) (oI (bNx S T))) (oI (bRc S T R)))), (0, .ref (a 13))]) hx hb dX0_digest_55 rfl hl (by decide) rfl (fun ls hl => ?_)
  refine lv_lload_n hx hb dX0_digest_56 rfl (lv_at hl 0 rfl) ?_
  refine lv_aload_n hx hb dX0_digest_57 rfl (lv_at hl 1 rfl) ?_
  refine k_X0_inDebt hC (c_X0_inDebt l D cI cQ a S hI) hB rfl ⟨rfl, rfl⟩ ⟨Nat.le_of_ble_eq_true rfl, Nat.le_of_ble_eq_true rfl⟩ ⟨Nat.zero_le _, Nat.zero_le _⟩ hl.1 rfl (Nat.le_of_ble_eq_true rfl) dX0_digest_58 ?_
  refine k_X0_mixed hC (c_X0_mixed l (mi (mi (mi (mi (mi (mi 2081 (S 6 0)) (nI T)) (nI R)) (oI (bDe S T R))) (oI (bNx S T))) (oI (bRc S T R))) (bOw S R)) mov_T trivial rfl ⟨rfl, rfl⟩ ⟨Nat.le_of_ble_eq_true rfl, Nat.le_of_ble_eq_true rfl⟩ ⟨Nat.zero_le _, Nat.zero_le _⟩ hl.1 rfl (Nat.le_of_ble_eq_true rfl) dX0_digest_61 ?_
  refine lv_lstore_n (lv' := [(1, .long (mi (mi (mi (mi (mi (mi (mi 2081 (S 6 0)) (nI T)) (nI R)) (oI (bDe S T R))) (oI (bNx S T))) (oI (bRc S T R))) (bOw S R))), (0, .ref (a 13))]) hx hb dX0_digest_64 rfl hl (by decide) rfl (fun ls hl => ?_)
  refine lv_lload_n hx hb dX0_digest_65 rfl (lv_at hl 0 rfl) ?_
  refine lv_aload_n hx hb dX0_digest_66 rfl (lv_at hl 1 rfl) ?_
  refine k_X0_bestToBuy hC (c_X0_bestToBuy l D cI cQ a S hI) hB rfl ⟨rfl, rfl⟩ ⟨Nat.le_of_ble_eq_true rfl, Nat.le_of_ble_eq_true rfl⟩ ⟨Nat.zero_le _, Nat.zero_le _⟩ hl.1 rfl (Nat.le_of_ble_eq_true rfl) dX0_digest_67 ?_
  refine k_X0_mixed hC (c_X0_mixed l (mi (mi (mi (mi (mi (mi (mi 2081 (S 6 0)) (nI T)) (nI R)) (oI (bDe S T R))) (oI (bNx S T))) (oI (bRc S T R))) (bOw S R)) (oI (bBu S T R))) mov_T trivial rfl ⟨rfl, rfl⟩ ⟨Nat.le_of_ble_eq_true rfl, Nat.le_of_ble_eq_true rfl⟩ ⟨Nat.zero_le _, Nat.zero_le _⟩ hl.1 rfl (Nat.le_of_ble_eq_true rfl) dX0_digest_70 ?_
  refine lv_lstore_n (lv' := [(1, .long (mi (mi (mi (mi (mi (mi (mi (mi 2081 (S 6 0)) (nI T)) (nI R)) (oI (bDe S T R))) (oI (bNx S T))) (oI (bRc S T R))) (bOw S R)) (oI (bBu S T R)))), (0, .ref (a 13))]) hx hb dX0_digest_73 rfl hl (by decide) rfl (fun ls hl => ?_)
  refine lv_iconst (v := 0) hx hb dX0_digest_74 (by decide) ?_
  refine lv_istore_n (lv' := [(3, .int (0)), (1, .long (mi (mi (mi (mi (mi (mi (mi (mi 2081 (S 6 0)) (nI T)) (nI R)) (oI (bDe S T R))) (oI (bNx S T))) (oI (bRc S T R))) (bOw S R)) (oI (bBu S T R)))), (0, .ref (a 13))]) hx hb dX0_digest_75 rfl hl (by decide) rfl (fun ls hl => ?_)
  refine loopU (P := fun i => ∀ ls : Array Slot, lv_has ls 4 [(3, .int (nI i)), (1, .long (lfo (bMt S R) (mi (mi (mi (mi (mi (mi (mi (mi 2081 (S 6 0)) (nI T)) (nI R)) (oI (bDe S T R))) (oI (bNx S T))) (oI (bRc S T R))) (bOw S R)) (oI (bBu S T R))) i)), (0, .ref (a 13))] → W p l e ({ frames := 6, cells := 0, slots := 0, locals := 144 } : Room) s m args below meth c s.heap [] 0 0 (MQ below (k2_QcV (.long (bDg S T R))) args s 0 0 (fun _ => False)) (F0 m 76 ls [])) (T) ?_ ?_ 0 (by omega) ls (by first | exact lv_sub hl [0, 1, 2] rfl | (simpa using lv_sub hl [0, 1, 2] rfl))
  · intro ls hl
    refine lv_iload_n hx hb dX0_digest_76 rfl (lv_at hl 0 rfl) ?_
    refine lv_aload_n hx hb dX0_digest_77 rfl (lv_at hl 2 rfl) ?_
    refine gB_towerCount hC hB hT dX0_digest_78 ?_
    refine jge (i := T) (j := T) (tgt := 97) hC dX0_digest_81 (by decide) rfl rfl (by omega) (by omega) (fun c1 => ?_) (fun c1 => ?_)
    · refine lv_iconst (v := 0) hx hb dX0_digest_97 (by decide) ?_
      refine lv_istore_n (lv' := [(3, .int (0)), (1, .long (lfo (bMt S R) (mi (mi (mi (mi (mi (mi (mi (mi 2081 (S 6 0)) (nI T)) (nI R)) (oI (bDe S T R))) (oI (bNx S T))) (oI (bRc S T R))) (bOw S R)) (oI (bBu S T R))) T)), (0, .ref (a 13))]) hx hb dX0_digest_98 rfl hl (by decide) rfl (fun ls hl => ?_)
      refine loopU (P := fun i => ∀ ls : Array Slot, lv_has ls 4 [(3, .int (nI i)), (1, .long (lfo (bMr S T R) (lfo (bMt S R) (mi (mi (mi (mi (mi (mi (mi (mi 2081 (S 6 0)) (nI T)) (nI R)) (oI (bDe S T R))) (oI (bNx S T))) (oI (bRc S T R))) (bOw S R)) (oI (bBu S T R))) T) i)), (0, .ref (a 13))] → W p l e ({ frames := 6, cells := 0, slots := 0, locals := 144 } : Room) s m args below meth c s.heap [] 0 0 (MQ below (k2_QcV (.long (bDg S T R))) args s 0 0 (fun _ => False)) (F0 m 99 ls [])) (R) ?_ ?_ 0 (by omega) ls (by first | exact lv_sub hl [0, 1, 2] rfl | (simpa using lv_sub hl [0, 1, 2] rfl))
      · intro ls hl
        refine lv_iload_n hx hb dX0_digest_99 rfl (lv_at hl 0 rfl) ?_
        refine lv_aload_n hx hb dX0_digest_100 rfl (lv_at hl 2 rfl) ?_
        refine gB_traderCount hC hB hR dX0_digest_101 ?_
        refine jge (i := R) (j := R) (tgt := 120) hC dX0_digest_104 (by decide) rfl rfl (by omega) (by omega) (fun c2 => ?_) (fun c2 => ?_)
        · refine lv_lload_n hx hb dX0_digest_120 rfl (lv_at hl 1 rfl) ?_
          exact rd_l hC hr hlocks dX0_digest_121 (by rfl)
        · exfalso; omega
      · intro i hi ih ls hl
        refine lv_iload_n hx hb dX0_digest_99 rfl (lv_at hl 0 rfl) ?_
        refine lv_aload_n hx hb dX0_digest_100 rfl (lv_at hl 2 rfl) ?_
        refine gB_traderCount hC hB hR dX0_digest_101 ?_
        refine jge (i := i) (j := R) (tgt := 120) hC dX0_digest_104 (by decide) rfl rfl (by omega) (by omega) (fun c3 => ?_) (fun c3 => ?_)
        · exfalso; omega
        · refine lv_aload_n hx hb dX0_digest_107 rfl (lv_at hl 2 rfl) ?_
          refine lv_lload_n hx hb dX0_digest_108 rfl (lv_at hl 1 rfl) ?_
          refine lv_iload_n hx hb dX0_digest_109 rfl (lv_at hl 0 rfl) ?_
          refine k_X0_mixedTrader hC (c_X0_mixedTrader l D cI cQ a S (r := i) (lfo (bMr S T R) (lfo (bMt S R) (mi (mi (mi (mi (mi (mi (mi (mi 2081 (S 6 0)) (nI T)) (nI R)) (oI (bDe S T R))) (oI (bNx S T))) (oI (bRc S T R))) (bOw S R)) (oI (bBu S T R))) T) i) hI (by omega)) hB rfl ⟨rfl, rfl⟩ ⟨Nat.le_of_ble_eq_true rfl, Nat.le_of_ble_eq_true rfl⟩ ⟨Nat.zero_le _, Nat.zero_le _⟩ hl.1 rfl (Nat.le_of_ble_eq_true rfl) dX0_digest_110 ?_
          refine lv_lstore_n (lv' := [(1, .long (bMr S T R (lfo (bMr S T R) (lfo (bMt S R) (mi (mi (mi (mi (mi (mi (mi (mi 2081 (S 6 0)) (nI T)) (nI R)) (oI (bDe S T R))) (oI (bNx S T))) (oI (bRc S T R))) (bOw S R)) (oI (bBu S T R))) T) i) i)), (3, .int (nI i)), (0, .ref (a 13))]) hx hb dX0_digest_113 rfl hl (by decide) rfl (fun ls hl => ?_)
          refine lv_iinc (v := nI (i + 1)) (lv' := [(3, .int (nI (i + 1))), (1, .long (bMr S T R (lfo (bMr S T R) (lfo (bMt S R) (mi (mi (mi (mi (mi (mi (mi (mi 2081 (S 6 0)) (nI T)) (nI R)) (oI (bDe S T R))) (oI (bNx S T))) (oI (bRc S T R))) (bOw S R)) (oI (bBu S T R))) T) i) i)), (0, .ref (a 13))]) hx hb dX0_digest_114 hl (k := 1) rfl (ninc i) (by decide) rfl (fun ls hl => ?_)
          refine lv_goto (tgt := 99) hx hb dX0_digest_117 (by decide) ?_
          exact ih ls (lv_sub hl [0, 1, 2] rfl)
    · exfalso; omega
  · intro i hi ih ls hl
    refine lv_iload_n hx hb dX0_digest_76 rfl (lv_at hl 0 rfl) ?_
    refine lv_aload_n hx hb dX0_digest_77 rfl (lv_at hl 2 rfl) ?_
    refine gB_towerCount hC hB hT dX0_digest_78 ?_
    refine jge (i := i) (j := T) (tgt := 97) hC dX0_digest_81 (by decide) rfl rfl (by omega) (by omega) (fun c4 => ?_) (fun c4 => ?_)
    · exfalso; omega
    · refine lv_aload_n hx hb dX0_digest_84 rfl (lv_at hl 2 rfl) ?_
      refine lv_lload_n hx hb dX0_digest_85 rfl (lv_at hl 1 rfl) ?_
      refine lv_iload_n hx hb dX0_digest_86 rfl (lv_at hl 0 rfl) ?_
      refine k_X0_mixedTower hC (c_X0_mixedTower l D cI cQ a S (t := i) (lfo (bMt S R) (mi (mi (mi (mi (mi (mi (mi (mi 2081 (S 6 0)) (nI T)) (nI R)) (oI (bDe S T R))) (oI (bNx S T))) (oI (bRc S T R))) (bOw S R)) (oI (bBu S T R))) i) hI (by omega)) hB rfl ⟨rfl, rfl⟩ ⟨Nat.le_of_ble_eq_true rfl, Nat.le_of_ble_eq_true rfl⟩ ⟨Nat.zero_le _, Nat.zero_le _⟩ hl.1 rfl (Nat.le_of_ble_eq_true rfl) dX0_digest_87 ?_
      refine lv_lstore_n (lv' := [(1, .long (bMt S R (lfo (bMt S R) (mi (mi (mi (mi (mi (mi (mi (mi 2081 (S 6 0)) (nI T)) (nI R)) (oI (bDe S T R))) (oI (bNx S T))) (oI (bRc S T R))) (bOw S R)) (oI (bBu S T R))) i) i)), (3, .int (nI i)), (0, .ref (a 13))]) hx hb dX0_digest_90 rfl hl (by decide) rfl (fun ls hl => ?_)
      refine lv_iinc (v := nI (i + 1)) (lv' := [(3, .int (nI (i + 1))), (1, .long (bMt S R (lfo (bMt S R) (mi (mi (mi (mi (mi (mi (mi (mi 2081 (S 6 0)) (nI T)) (nI R)) (oI (bDe S T R))) (oI (bNx S T))) (oI (bRc S T R))) (bOw S R)) (oI (bBu S T R))) i) i)), (0, .ref (a 13))]) hx hb dX0_digest_91 hl (k := 1) rfl (ninc i) (by decide) rfl (fun ls hl => ?_)
      refine lv_goto (tgt := 76) hx hb dX0_digest_94 (by decide) ?_
      exact ih ls (lv_sub hl [0, 1, 2] rfl)

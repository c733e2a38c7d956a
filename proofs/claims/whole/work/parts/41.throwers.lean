theorem bad_rng {x : Int32} {lo hi : Nat} (hh : hi < 2 ^ 30) (hlh : lo < 2 ^ 30) (hx : ¬ ∃ k : Nat, lo ≤ k ∧ k ≤ hi ∧ x = nI k) (h0 : ¬ x < nI lo) (h1 : x ≤ nI hi) : False := by
  rw [Int32.lt_iff_toInt_lt, nI_toInt (by omega)] at h0
  rw [Int32.le_iff_toInt_le, nI_toInt (by omega)] at h1
  refine hx ⟨x.toInt.toNat, by omega, by omega, ?_⟩
  apply Int32.toInt_inj.mp
  rw [nI_toInt (by omega)]
  omega
theorem bad_lt {x : Int32} {T : Nat} (hh : T < 2 ^ 30) (hx : ¬ ∃ t : Nat, t < T ∧ x = nI t) (h0 : ¬ x < 0) (h1 : x < nI T) : False := by
  rw [Int32.lt_iff_toInt_lt, Int32.toInt_zero] at h0
  rw [Int32.lt_iff_toInt_lt, nI_toInt (by omega)] at h1
  refine hx ⟨x.toInt.toNat, by omega, ?_⟩
  apply Int32.toInt_inj.mp
  rw [nI_toInt (by omega)]
  omega
set_option maxHeartbeats 4000000 in
set_option maxRecDepth 100000 in
theorem t_X0_requireTower (l : Launch) (hl9 : l.stackTraces = false) (D : va_G) (cI cQ : ClassId) (a : Nat → Nat) (S : bS) {T R : Nat} {x : Int32} (hI : BI S T R) (hbad : ¬ ∃ t : Nat, t < T ∧ x = nI t) : Th l yX0_requireTower cX0_requireTower 2 none ({ frames := 6, cells := 1, slots := 6, locals := 82 } : Room) (BW D cI cQ a S) [.ref (a 13), .int (x)] eIO := by
  refine Th.of (by decide) (Nat.le_of_ble_eq_true rfl) ?_
  intro p e s m args below meth c ls hC hlocks hxt hB hX hH hl
  have hx0 := hC.1
  have hx := hC.1
  have hb := hC.2.1
  obtain ⟨hT, hR, hT8, hR6⟩ := id hI
  have hl : lv_has ls 2 [(0, .ref (a 13)), (1, .int (x))] := hl
  refine lv_iload_n hx hb dX0_requireTower_0 rfl (lv_at hl 1 rfl) ?_
  refine lv_if_lt (tgt := 12) hx hb dX0_requireTower_1 (by decide) (fun c1 => ?_) (fun c1 => ?_)
  · exact thrIO (is := 154) hC hl9 hX hH (List.mem_of_getElem? (i := 8) rfl) hl.1 hxt hlocks (by decide) dX0_requireTower_12 dX0_requireTower_15 dX0_requireTower_16 dX0_requireTower_18 dX0_requireTower_21
  · refine lv_iload_n hx hb dX0_requireTower_4 rfl (lv_at hl 1 rfl) ?_
    refine lv_aload_n hx hb dX0_requireTower_5 rfl (lv_at hl 0 rfl) ?_
    refine gB_towerCount hC hB hT dX0_requireTower_6 ?_
    refine lv_icmp_lt (tgt := 22) hx hb dX0_requireTower_9 (by decide) (fun c2 => ?_) (fun c2 => ?_)
    · exfalso; exact bad_lt (by omega) hbad c1 c2
    · exact thrIO (is := 154) hC hl9 hX hH (List.mem_of_getElem? (i := 8) rfl) hl.1 hxt hlocks (by decide) dX0_requireTower_12 dX0_requireTower_15 dX0_requireTower_16 dX0_requireTower_18 dX0_requireTower_21
set_option maxHeartbeats 4000000 in
set_option maxRecDepth 100000 in
theorem t_X0_requireTrader (l : Launch) (hl9 : l.stackTraces = false) (D : va_G) (cI cQ : ClassId) (a : Nat → Nat) (S : bS) {T R : Nat} {x : Int32} (hI : BI S T R) (hbad : ¬ ∃ r : Nat, r < R ∧ x = nI r) : Th l yX0_requireTrader cX0_requireTrader 2 none ({ frames := 6, cells := 1, slots := 6, locals := 82 } : Room) (BW D cI cQ a S) [.ref (a 13), .int (x)] eIO := by
  refine Th.of (by decide) (Nat.le_of_ble_eq_true rfl) ?_
  intro p e s m args below meth c ls hC hlocks hxt hB hX hH hl
  have hx0 := hC.1
  have hx := hC.1
  have hb := hC.2.1
  obtain ⟨hT, hR, hT8, hR6⟩ := id hI
  have hl : lv_has ls 2 [(0, .ref (a 13)), (1, .int (x))] := hl
  refine lv_iload_n hx hb dX0_requireTrader_0 rfl (lv_at hl 1 rfl) ?_
  refine lv_if_lt (tgt := 12) hx hb dX0_requireTrader_1 (by decide) (fun c1 => ?_) (fun c1 => ?_)
  · exact thrIO (is := 157) hC hl9 hX hH (List.mem_of_getElem? (i := 9) rfl) hl.1 hxt hlocks (by decide) dX0_requireTrader_12 dX0_requireTrader_15 dX0_requireTrader_16 dX0_requireTrader_18 dX0_requireTrader_21
  · refine lv_iload_n hx hb dX0_requireTrader_4 rfl (lv_at hl 1 rfl) ?_
    refine lv_aload_n hx hb dX0_requireTrader_5 rfl (lv_at hl 0 rfl) ?_
    refine gB_traderCount hC hB hR dX0_requireTrader_6 ?_
    refine lv_icmp_lt (tgt := 22) hx hb dX0_requireTrader_9 (by decide) (fun c2 => ?_) (fun c2 => ?_)
    · exfalso; exact bad_lt (by omega) hbad c1 c2
    · exact thrIO (is := 157) hC hl9 hX hH (List.mem_of_getElem? (i := 9) rfl) hl.1 hxt hlocks (by decide) dX0_requireTrader_12 dX0_requireTrader_15 dX0_requireTrader_16 dX0_requireTrader_18 dX0_requireTrader_21
set_option maxHeartbeats 4000000 in
set_option maxRecDepth 100000 in
theorem t_X0_requireTradable (l : Launch) (hl9 : l.stackTraces = false) {x : Int32} (hbad : ¬ ∃ k : Nat, 1 ≤ k ∧ k ≤ 9 ∧ x = nI k) : Th l yX0_requireTradable cX0_requireTradable 1 none ({ frames := 6, cells := 1, slots := 6, locals := 82 } : Room) (fun _ _ => True) [.int (x)] eIA := by
  refine Th.of (by decide) (Nat.le_of_ble_eq_true rfl) ?_
  intro p e s m args below meth c ls hC hlocks hxt hB hX hH hl
  have hx0 := hC.1
  have hx := hC.1
  have hb := hC.2.1
  have hl : lv_has ls 1 [(0, .int (x))] := hl
  refine lv_iload_n hx hb dX0_requireTradable_0 rfl (lv_at hl 0 rfl) ?_
  refine lv_iconst (v := 1) hx hb dX0_requireTradable_1 (by decide) ?_
  refine lv_icmp_lt (tgt := 11) hx hb dX0_requireTradable_2 (by decide) (fun c1 => ?_) (fun c1 => ?_)
  · exact thrIA (is := 159) hC hl9 hX hH (List.mem_of_getElem? (i := 10) rfl) hl.1 hxt hlocks (by decide) dX0_requireTradable_11 dX0_requireTradable_14 dX0_requireTradable_15 dX0_requireTradable_17 dX0_requireTradable_20
  · refine lv_iload_n hx hb dX0_requireTradable_5 rfl (lv_at hl 0 rfl) ?_
    refine lv_bipush (v := 9) hx hb dX0_requireTradable_6 (by decide) ?_
    refine lv_icmp_le (tgt := 21) hx hb dX0_requireTradable_8 (by decide) (fun c2 => ?_) (fun c2 => ?_)
    · exfalso; exact bad_rng (lo := 1) (hi := 9) (by decide) (by decide) hbad c1 c2
    · exact thrIA (is := 159) hC hl9 hX hH (List.mem_of_getElem? (i := 10) rfl) hl.1 hxt hlocks (by decide) dX0_requireTradable_11 dX0_requireTradable_14 dX0_requireTradable_15 dX0_requireTradable_17 dX0_requireTradable_20
set_option maxHeartbeats 4000000 in
set_option maxRecDepth 100000 in
theorem t_X0_requirePassable (l : Launch) (hl9 : l.stackTraces = false) {x : Int32} (hbad : ¬ ∃ k : Nat, 1 ≤ k ∧ k ≤ 60 ∧ x = nI k) : Th l yX0_requirePassable cX0_requirePassable 1 none ({ frames := 6, cells := 1, slots := 6, locals := 82 } : Room) (fun _ _ => True) [.int (x)] eIA := by
  refine Th.of (by decide) (Nat.le_of_ble_eq_true rfl) ?_
  intro p e s m args below meth c ls hC hlocks hxt hB hX hH hl
  have hx0 := hC.1
  have hx := hC.1
  have hb := hC.2.1
  have hl : lv_has ls 1 [(0, .int (x))] := hl
  refine lv_iload_n hx hb dX0_requirePassable_0 rfl (lv_at hl 0 rfl) ?_
  refine lv_iconst (v := 1) hx hb dX0_requirePassable_1 (by decide) ?_
  refine lv_icmp_lt (tgt := 11) hx hb dX0_requirePassable_2 (by decide) (fun c1 => ?_) (fun c1 => ?_)
  · exact thrIA (is := 161) hC hl9 hX hH (List.mem_of_getElem? (i := 11) rfl) hl.1 hxt hlocks (by decide) dX0_requirePassable_11 dX0_requirePassable_14 dX0_requirePassable_15 dX0_requirePassable_17 dX0_requirePassable_20
  · refine lv_iload_n hx hb dX0_requirePassable_5 rfl (lv_at hl 0 rfl) ?_
    refine lv_bipush (v := 60) hx hb dX0_requirePassable_6 (by decide) ?_
    refine lv_icmp_le (tgt := 21) hx hb dX0_requirePassable_8 (by decide) (fun c2 => ?_) (fun c2 => ?_)
    · exfalso; exact bad_rng (lo := 1) (hi := 60) (by decide) (by decide) hbad c1 c2
    · exact thrIA (is := 161) hC hl9 hX hH (List.mem_of_getElem? (i := 11) rfl) hl.1 hxt hlocks (by decide) dX0_requirePassable_11 dX0_requirePassable_14 dX0_requirePassable_15 dX0_requirePassable_17 dX0_requirePassable_20
set_option maxHeartbeats 4000000 in
set_option maxRecDepth 100000 in
theorem t_X0_silenceOf_t (l : Launch) (hl9 : l.stackTraces = false) (D : va_G) (cI cQ : ClassId) (a : Nat → Nat) (S : bS) {T R : Nat} {x : Int32} (hI : BI S T R) (hbad : ¬ ∃ t : Nat, t < T ∧ x = nI t) : Th l yX0_silenceOf cX0_silenceOf 2 (some .int) ({ frames := 7, cells := 1, slots := 6, locals := 110 } : Room) (BW D cI cQ a S) [.ref (a 13), .int (x)] eIO := by
  refine Th.of (by decide) (Nat.le_of_ble_eq_true rfl) ?_
  intro p e s m args below meth c ls hC hlocks hxt hB hX hH hl
  have hx0 := hC.1
  have hx := hC.1
  have hb := hC.2.1
  obtain ⟨hT, hR, hT8, hR6⟩ := id hI
  have hl : lv_has ls 2 [(0, .ref (a 13)), (1, .int (x))] := hl
  refine lv_aload_n hx hb dX0_silenceOf_0 rfl (lv_at hl 0 rfl) ?_
  refine lv_iload_n hx hb dX0_silenceOf_1 rfl (lv_at hl 1 rfl) ?_
  exact kVx hC (t_X0_requireTower l hl9 D cI cQ a S hI hbad) mov_B hB hX hH (rec_B hB) (good_V mw_95 mw_96 mw_97 mw_2 mw_98) rfl rfl ⟨rfl, by decide +kernel, by decide +kernel, show (parseMethodDescriptor yX0_requireTower.desc).map (fun d => d.parameters.length) = some 1 by decide +kernel⟩ ⟨Nat.le_of_ble_eq_true rfl, Nat.le_of_ble_eq_true rfl⟩ ⟨Nat.le_of_ble_eq_true rfl, Nat.le_of_ble_eq_true rfl⟩ hl.1 rfl (Nat.le_of_ble_eq_true rfl) dX0_silenceOf_2 hxt hlocks
set_option maxHeartbeats 4000000 in
set_option maxRecDepth 100000 in
theorem t_X0_dovesOn_t (l : Launch) (hl9 : l.stackTraces = false) (D : va_G) (cI cQ : ClassId) (a : Nat → Nat) (S : bS) {T R : Nat} {x : Int32} (hI : BI S T R) (hbad : ¬ ∃ t : Nat, t < T ∧ x = nI t) : Th l yX0_dovesOn cX0_dovesOn 2 (some .int) ({ frames := 7, cells := 1, slots := 6, locals := 110 } : Room) (BW D cI cQ a S) [.ref (a 13), .int (x)] eIO := by
  refine Th.of (by decide) (Nat.le_of_ble_eq_true rfl) ?_
  intro p e s m args below meth c ls hC hlocks hxt hB hX hH hl
  have hx0 := hC.1
  have hx := hC.1
  have hb := hC.2.1
  obtain ⟨hT, hR, hT8, hR6⟩ := id hI
  have hl : lv_has ls 2 [(0, .ref (a 13)), (1, .int (x))] := hl
  refine lv_aload_n hx hb dX0_dovesOn_0 rfl (lv_at hl 0 rfl) ?_
  refine lv_iload_n hx hb dX0_dovesOn_1 rfl (lv_at hl 1 rfl) ?_
  exact kVx hC (t_X0_requireTower l hl9 D cI cQ a S hI hbad) mov_B hB hX hH (rec_B hB) (good_V mw_95 mw_96 mw_97 mw_2 mw_98) rfl rfl ⟨rfl, by decide +kernel, by decide +kernel, show (parseMethodDescriptor yX0_requireTower.desc).map (fun d => d.parameters.length) = some 1 by decide +kernel⟩ ⟨Nat.le_of_ble_eq_true rfl, Nat.le_of_ble_eq_true rfl⟩ ⟨Nat.le_of_ble_eq_true rfl, Nat.le_of_ble_eq_true rfl⟩ hl.1 rfl (Nat.le_of_ble_eq_true rfl) dX0_dovesOn_2 hxt hlocks
set_option maxHeartbeats 4000000 in
set_option maxRecDepth 100000 in
theorem t_X0_priceOf_t (l : Launch) (hl9 : l.stackTraces = false) (D : va_G) (cI cQ : ClassId) (a : Nat → Nat) (S : bS) {T R : Nat} {x : Int32} (hI : BI S T R) (hbad : ¬ ∃ t : Nat, t < T ∧ x = nI t) : Th l yX0_priceOf cX0_priceOf 2 (some .int) ({ frames := 7, cells := 1, slots := 6, locals := 110 } : Room) (BW D cI cQ a S) [.ref (a 13), .int (x)] eIO := by
  refine Th.of (by decide) (Nat.le_of_ble_eq_true rfl) ?_
  intro p e s m args below meth c ls hC hlocks hxt hB hX hH hl
  have hx0 := hC.1
  have hx := hC.1
  have hb := hC.2.1
  obtain ⟨hT, hR, hT8, hR6⟩ := id hI
  have hl : lv_has ls 2 [(0, .ref (a 13)), (1, .int (x))] := hl
  refine lv_aload_n hx hb dX0_priceOf_0 rfl (lv_at hl 0 rfl) ?_
  refine lv_iload_n hx hb dX0_priceOf_1 rfl (lv_at hl 1 rfl) ?_
  exact kVx hC (t_X0_requireTower l hl9 D cI cQ a S hI hbad) mov_B hB hX hH (rec_B hB) (good_V mw_95 mw_96 mw_97 mw_2 mw_98) rfl rfl ⟨rfl, by decide +kernel, by decide +kernel, show (parseMethodDescriptor yX0_requireTower.desc).map (fun d => d.parameters.length) = some 1 by decide +kernel⟩ ⟨Nat.le_of_ble_eq_true rfl, Nat.le_of_ble_eq_true rfl⟩ ⟨Nat.le_of_ble_eq_true rfl, Nat.le_of_ble_eq_true rfl⟩ hl.1 rfl (Nat.le_of_ble_eq_true rfl) dX0_priceOf_2 hxt hlocks
set_option maxHeartbeats 4000000 in
set_option maxRecDepth 100000 in
theorem t_X0_secondsUntilStroke_t (l : Launch) (hl9 : l.stackTraces = false) (D : va_G) (cI cQ : ClassId) (a : Nat → Nat) (S : bS) {T R : Nat} {x : Int32} (hI : BI S T R) (hbad : ¬ ∃ t : Nat, t < T ∧ x = nI t) : Th l yX0_secondsUntilStroke cX0_secondsUntilStroke 2 (some .int) ({ frames := 7, cells := 1, slots := 6, locals := 110 } : Room) (BW D cI cQ a S) [.ref (a 13), .int (x)] eIO := by
  refine Th.of (by decide) (Nat.le_of_ble_eq_true rfl) ?_
  intro p e s m args below meth c ls hC hlocks hxt hB hX hH hl
  have hx0 := hC.1
  have hx := hC.1
  have hb := hC.2.1
  obtain ⟨hT, hR, hT8, hR6⟩ := id hI
  have hl : lv_has ls 2 [(0, .ref (a 13)), (1, .int (x))] := hl
  refine lv_aload_n hx hb dX0_secondsUntilStroke_0 rfl (lv_at hl 0 rfl) ?_
  refine lv_iload_n hx hb dX0_secondsUntilStroke_1 rfl (lv_at hl 1 rfl) ?_
  exact kVx hC (t_X0_requireTower l hl9 D cI cQ a S hI hbad) mov_B hB hX hH (rec_B hB) (good_V mw_95 mw_96 mw_97 mw_2 mw_98) rfl rfl ⟨rfl, by decide +kernel, by decide +kernel, show (parseMethodDescriptor yX0_requireTower.desc).map (fun d => d.parameters.length) = some 1 by decide +kernel⟩ ⟨Nat.le_of_ble_eq_true rfl, Nat.le_of_ble_eq_true rfl⟩ ⟨Nat.le_of_ble_eq_true rfl, Nat.le_of_ble_eq_true rfl⟩ hl.1 rfl (Nat.le_of_ble_eq_true rfl) dX0_secondsUntilStroke_2 hxt hlocks
set_option maxHeartbeats 4000000 in
set_option maxRecDepth 100000 in
theorem t_X0_strokesOf_t (l : Launch) (hl9 : l.stackTraces = false) (D : va_G) (cI cQ : ClassId) (a : Nat → Nat) (S : bS) {T R : Nat} {x : Int32} (hI : BI S T R) (hbad : ¬ ∃ t : Nat, t < T ∧ x = nI t) : Th l yX0_strokesOf cX0_strokesOf 2 (some .int) ({ frames := 7, cells := 1, slots := 6, locals := 110 } : Room) (BW D cI cQ a S) [.ref (a 13), .int (x)] eIO := by
  refine Th.of (by decide) (Nat.le_of_ble_eq_true rfl) ?_
  intro p e s m args below meth c ls hC hlocks hxt hB hX hH hl
  have hx0 := hC.1
  have hx := hC.1
  have hb := hC.2.1
  obtain ⟨hT, hR, hT8, hR6⟩ := id hI
  have hl : lv_has ls 2 [(0, .ref (a 13)), (1, .int (x))] := hl
  refine lv_aload_n hx hb dX0_strokesOf_0 rfl (lv_at hl 0 rfl) ?_
  refine lv_iload_n hx hb dX0_strokesOf_1 rfl (lv_at hl 1 rfl) ?_
  exact kVx hC (t_X0_requireTower l hl9 D cI cQ a S hI hbad) mov_B hB hX hH (rec_B hB) (good_V mw_95 mw_96 mw_97 mw_2 mw_98) rfl rfl ⟨rfl, by decide +kernel, by decide +kernel, show (parseMethodDescriptor yX0_requireTower.desc).map (fun d => d.parameters.length) = some 1 by decide +kernel⟩ ⟨Nat.le_of_ble_eq_true rfl, Nat.le_of_ble_eq_true rfl⟩ ⟨Nat.le_of_ble_eq_true rfl, Nat.le_of_ble_eq_true rfl⟩ hl.1 rfl (Nat.le_of_ble_eq_true rfl) dX0_strokesOf_2 hxt hlocks
set_option maxHeartbeats 4000000 in
set_option maxRecDepth 100000 in
theorem t_X0_openSeconds_t (l : Launch) (hl9 : l.stackTraces = false) (D : va_G) (cI cQ : ClassId) (a : Nat → Nat) (S : bS) {T R : Nat} {x : Int32} (hI : BI S T R) (hbad : ¬ ∃ t : Nat, t < T ∧ x = nI t) : Th l yX0_openSeconds cX0_openSeconds 2 (some .int) ({ frames := 7, cells := 1, slots := 6, locals := 110 } : Room) (BW D cI cQ a S) [.ref (a 13), .int (x)] eIO := by
  refine Th.of (by decide) (Nat.le_of_ble_eq_true rfl) ?_
  intro p e s m args below meth c ls hC hlocks hxt hB hX hH hl
  have hx0 := hC.1
  have hx := hC.1
  have hb := hC.2.1
  obtain ⟨hT, hR, hT8, hR6⟩ := id hI
  have hl : lv_has ls 2 [(0, .ref (a 13)), (1, .int (x))] := hl
  refine lv_aload_n hx hb dX0_openSeconds_0 rfl (lv_at hl 0 rfl) ?_
  refine lv_iload_n hx hb dX0_openSeconds_1 rfl (lv_at hl 1 rfl) ?_
  exact kVx hC (t_X0_requireTower l hl9 D cI cQ a S hI hbad) mov_B hB hX hH (rec_B hB) (good_V mw_95 mw_96 mw_97 mw_2 mw_98) rfl rfl ⟨rfl, by decide +kernel, by decide +kernel, show (parseMethodDescriptor yX0_requireTower.desc).map (fun d => d.parameters.length) = some 1 by decide +kernel⟩ ⟨Nat.le_of_ble_eq_true rfl, Nat.le_of_ble_eq_true rfl⟩ ⟨Nat.le_of_ble_eq_true rfl, Nat.le_of_ble_eq_true rfl⟩ hl.1 rfl (Nat.le_of_ble_eq_true rfl) dX0_openSeconds_2 hxt hlocks
set_option maxHeartbeats 4000000 in
set_option maxRecDepth 100000 in
theorem t_X0_closingPrice_t (l : Launch) (hl9 : l.stackTraces = false) (D : va_G) (cI cQ : ClassId) (a : Nat → Nat) (S : bS) {T R : Nat} {x : Int32} (hI : BI S T R) (hbad : ¬ ∃ t : Nat, t < T ∧ x = nI t) : Th l yX0_closingPrice cX0_closingPrice 2 (some .int) ({ frames := 7, cells := 1, slots := 6, locals := 110 } : Room) (BW D cI cQ a S) [.ref (a 13), .int (x)] eIO := by
  refine Th.of (by decide) (Nat.le_of_ble_eq_true rfl) ?_
  intro p e s m args below meth c ls hC hlocks hxt hB hX hH hl
  have hx0 := hC.1
  have hx := hC.1
  have hb := hC.2.1
  obtain ⟨hT, hR, hT8, hR6⟩ := id hI
  have hl : lv_has ls 2 [(0, .ref (a 13)), (1, .int (x))] := hl
  refine lv_aload_n hx hb dX0_closingPrice_0 rfl (lv_at hl 0 rfl) ?_
  refine lv_iload_n hx hb dX0_closingPrice_1 rfl (lv_at hl 1 rfl) ?_
  exact kVx hC (t_X0_requireTower l hl9 D cI cQ a S hI hbad) mov_B hB hX hH (rec_B hB) (good_V mw_95 mw_96 mw_97 mw_2 mw_98) rfl rfl ⟨rfl, by decide +kernel, by decide +kernel, show (parseMethodDescriptor yX0_requireTower.desc).map (fun d => d.parameters.length) = some 1 by decide +kernel⟩ ⟨Nat.le_of_ble_eq_true rfl, Nat.le_of_ble_eq_true rfl⟩ ⟨Nat.le_of_ble_eq_true rfl, Nat.le_of_ble_eq_true rfl⟩ hl.1 rfl (Nat.le_of_ble_eq_true rfl) dX0_closingPrice_2 hxt hlocks
set_option maxHeartbeats 4000000 in
set_option maxRecDepth 100000 in
theorem t_X0_purseOf_r (l : Launch) (hl9 : l.stackTraces = false) (D : va_G) (cI cQ : ClassId) (a : Nat → Nat) (S : bS) {T R : Nat} {x : Int32} (hI : BI S T R) (hbad : ¬ ∃ r : Nat, r < R ∧ x = nI r) : Th l yX0_purseOf cX0_purseOf 2 (some .int) ({ frames := 7, cells := 1, slots := 6, locals := 110 } : Room) (BW D cI cQ a S) [.ref (a 13), .int (x)] eIO := by
  refine Th.of (by decide) (Nat.le_of_ble_eq_true rfl) ?_
  intro p e s m args below meth c ls hC hlocks hxt hB hX hH hl
  have hx0 := hC.1
  have hx := hC.1
  have hb := hC.2.1
  obtain ⟨hT, hR, hT8, hR6⟩ := id hI
  have hl : lv_has ls 2 [(0, .ref (a 13)), (1, .int (x))] := hl
  refine lv_aload_n hx hb dX0_purseOf_0 rfl (lv_at hl 0 rfl) ?_
  refine lv_iload_n hx hb dX0_purseOf_1 rfl (lv_at hl 1 rfl) ?_
  exact kVx hC (t_X0_requireTrader l hl9 D cI cQ a S hI hbad) mov_B hB hX hH (rec_B hB) (good_V mw_89 mw_90 mw_91 mw_2 mw_92) rfl rfl ⟨rfl, by decide +kernel, by decide +kernel, show (parseMethodDescriptor yX0_requireTrader.desc).map (fun d => d.parameters.length) = some 1 by decide +kernel⟩ ⟨Nat.le_of_ble_eq_true rfl, Nat.le_of_ble_eq_true rfl⟩ ⟨Nat.le_of_ble_eq_true rfl, Nat.le_of_ble_eq_true rfl⟩ hl.1 rfl (Nat.le_of_ble_eq_true rfl) dX0_purseOf_2 hxt hlocks
set_option maxHeartbeats 4000000 in
set_option maxRecDepth 100000 in
theorem t_X0_worthOf_r (l : Launch) (hl9 : l.stackTraces = false) (D : va_G) (cI cQ : ClassId) (a : Nat → Nat) (S : bS) {T R : Nat} {x : Int32} (hI : BI S T R) (hbad : ¬ ∃ r : Nat, r < R ∧ x = nI r) : Th l yX0_worthOf cX0_worthOf 2 (some .int) ({ frames := 7, cells := 1, slots := 6, locals := 110 } : Room) (BW D cI cQ a S) [.ref (a 13), .int (x)] eIO := by
  refine Th.of (by decide) (Nat.le_of_ble_eq_true rfl) ?_
  intro p e s m args below meth c ls hC hlocks hxt hB hX hH hl
  have hx0 := hC.1
  have hx := hC.1
  have hb := hC.2.1
  obtain ⟨hT, hR, hT8, hR6⟩ := id hI
  have hl : lv_has ls 2 [(0, .ref (a 13)), (1, .int (x))] := hl
  refine lv_aload_n hx hb dX0_worthOf_0 rfl (lv_at hl 0 rfl) ?_
  refine lv_iload_n hx hb dX0_worthOf_1 rfl (lv_at hl 1 rfl) ?_
  exact kVx hC (t_X0_requireTrader l hl9 D cI cQ a S hI hbad) mov_B hB hX hH (rec_B hB) (good_V mw_89 mw_90 mw_91 mw_2 mw_92) rfl rfl ⟨rfl, by decide +kernel, by decide +kernel, show (parseMethodDescriptor yX0_requireTrader.desc).map (fun d => d.parameters.length) = some 1 by decide +kernel⟩ ⟨Nat.le_of_ble_eq_true rfl, Nat.le_of_ble_eq_true rfl⟩ ⟨Nat.le_of_ble_eq_true rfl, Nat.le_of_ble_eq_true rfl⟩ hl.1 rfl (Nat.le_of_ble_eq_true rfl) dX0_worthOf_2 hxt hlocks
set_option maxHeartbeats 4000000 in
set_option maxRecDepth 100000 in
theorem t_X0_shortsOf_r (l : Launch) (hl9 : l.stackTraces = false) (D : va_G) (cI cQ : ClassId) (a : Nat → Nat) (S : bS) {T R : Nat} {x : Int32} (hI : BI S T R) (hbad : ¬ ∃ r : Nat, r < R ∧ x = nI r) : Th l yX0_shortsOf cX0_shortsOf 2 (some .int) ({ frames := 7, cells := 1, slots := 6, locals := 110 } : Room) (BW D cI cQ a S) [.ref (a 13), .int (x)] eIO := by
  refine Th.of (by decide) (Nat.le_of_ble_eq_true rfl) ?_
  intro p e s m args below meth c ls hC hlocks hxt hB hX hH hl
  have hx0 := hC.1
  have hx := hC.1
  have hb := hC.2.1
  obtain ⟨hT, hR, hT8, hR6⟩ := id hI
  have hl : lv_has ls 2 [(0, .ref (a 13)), (1, .int (x))] := hl
  refine lv_aload_n hx hb dX0_shortsOf_0 rfl (lv_at hl 0 rfl) ?_
  refine lv_iload_n hx hb dX0_shortsOf_1 rfl (lv_at hl 1 rfl) ?_
  exact kVx hC (t_X0_requireTrader l hl9 D cI cQ a S hI hbad) mov_B hB hX hH (rec_B hB) (good_V mw_89 mw_90 mw_91 mw_2 mw_92) rfl rfl ⟨rfl, by decide +kernel, by decide +kernel, show (parseMethodDescriptor yX0_requireTrader.desc).map (fun d => d.parameters.length) = some 1 by decide +kernel⟩ ⟨Nat.le_of_ble_eq_true rfl, Nat.le_of_ble_eq_true rfl⟩ ⟨Nat.le_of_ble_eq_true rfl, Nat.le_of_ble_eq_true rfl⟩ hl.1 rfl (Nat.le_of_ble_eq_true rfl) dX0_shortsOf_2 hxt hlocks
set_option maxHeartbeats 4000000 in
set_option maxRecDepth 100000 in
theorem t_X0_secondsUntilDebt_r (l : Launch) (hl9 : l.stackTraces = false) (D : va_G) (cI cQ : ClassId) (a : Nat → Nat) (S : bS) {T R : Nat} {x : Int32} (hI : BI S T R) (hbad : ¬ ∃ r : Nat, r < R ∧ x = nI r) : Th l yX0_secondsUntilDebt cX0_secondsUntilDebt 4 (some .int) ({ frames := 7, cells := 1, slots := 6, locals := 110 } : Room) (BW D cI cQ a S) [.ref (a 13), .int (x)] eIO := by
  refine Th.of (by decide) (Nat.le_of_ble_eq_true rfl) ?_
  intro p e s m args below meth c ls hC hlocks hxt hB hX hH hl
  have hx0 := hC.1
  have hx := hC.1
  have hb := hC.2.1
  obtain ⟨hT, hR, hT8, hR6⟩ := id hI
  have hl : lv_has ls 4 [(0, .ref (a 13)), (1, .int (x))] := hl
  refine lv_aload_n hx hb dX0_secondsUntilDebt_0 rfl (lv_at hl 0 rfl) ?_
  refine lv_iload_n hx hb dX0_secondsUntilDebt_1 rfl (lv_at hl 1 rfl) ?_
  exact kVx hC (t_X0_requireTrader l hl9 D cI cQ a S hI hbad) mov_B hB hX hH (rec_B hB) (good_V mw_89 mw_90 mw_91 mw_2 mw_92) rfl rfl ⟨rfl, by decide +kernel, by decide +kernel, show (parseMethodDescriptor yX0_requireTrader.desc).map (fun d => d.parameters.length) = some 1 by decide +kernel⟩ ⟨Nat.le_of_ble_eq_true rfl, Nat.le_of_ble_eq_true rfl⟩ ⟨Nat.le_of_ble_eq_true rfl, Nat.le_of_ble_eq_true rfl⟩ hl.1 rfl (Nat.le_of_ble_eq_true rfl) dX0_secondsUntilDebt_2 hxt hlocks
set_option maxHeartbeats 4000000 in
set_option maxRecDepth 100000 in
theorem t_X0_holds_r (l : Launch) (hl9 : l.stackTraces = false) (D : va_G) (cI cQ : ClassId) (a : Nat → Nat) (S : bS) {T R : Nat} {x y : Int32} (hI : BI S T R) (hbad : ¬ ∃ r : Nat, r < R ∧ x = nI r) : Th l yX0_holds cX0_holds 3 (some .int) ({ frames := 7, cells := 1, slots := 6, locals := 110 } : Room) (BW D cI cQ a S) [.ref (a 13), .int (x), .int (y)] eIO := by
  refine Th.of (by decide) (Nat.le_of_ble_eq_true rfl) ?_
  intro p e s m args below meth c ls hC hlocks hxt hB hX hH hl
  have hx0 := hC.1
  have hx := hC.1
  have hb := hC.2.1
  obtain ⟨hT, hR, hT8, hR6⟩ := id hI
  have hl : lv_has ls 3 [(0, .ref (a 13)), (1, .int (x)), (2, .int (y))] := hl
  refine lv_aload_n hx hb dX0_holds_0 rfl (lv_at hl 0 rfl) ?_
  refine lv_iload_n hx hb dX0_holds_1 rfl (lv_at hl 1 rfl) ?_
  exact kVx hC (t_X0_requireTrader l hl9 D cI cQ a S hI hbad) mov_B hB hX hH (rec_B hB) (good_V mw_89 mw_90 mw_91 mw_2 mw_92) rfl rfl ⟨rfl, by decide +kernel, by decide +kernel, show (parseMethodDescriptor yX0_requireTrader.desc).map (fun d => d.parameters.length) = some 1 by decide +kernel⟩ ⟨Nat.le_of_ble_eq_true rfl, Nat.le_of_ble_eq_true rfl⟩ ⟨Nat.le_of_ble_eq_true rfl, Nat.le_of_ble_eq_true rfl⟩ hl.1 rfl (Nat.le_of_ble_eq_true rfl) dX0_holds_2 hxt hlocks
set_option maxHeartbeats 4000000 in
set_option maxRecDepth 100000 in
theorem t_X0_holds_t (l : Launch) (hl9 : l.stackTraces = false) (D : va_G) (cI cQ : ClassId) (a : Nat → Nat) (S : bS) {T R : Nat} {r : Nat} {x : Int32} (hI : BI S T R) (hr9 : r < R) (hbad : ¬ ∃ t : Nat, t < T ∧ x = nI t) : Th l yX0_holds cX0_holds 3 (some .int) ({ frames := 7, cells := 1, slots := 6, locals := 110 } : Room) (BW D cI cQ a S) [.ref (a 13), .int (nI r), .int (x)] eIO := by
  refine Th.of (by decide) (Nat.le_of_ble_eq_true rfl) ?_
  intro p e s m args below meth c ls hC hlocks hxt hB hX hH hl
  have hx0 := hC.1
  have hx := hC.1
  have hb := hC.2.1
  obtain ⟨hT, hR, hT8, hR6⟩ := id hI
  have hl : lv_has ls 3 [(0, .ref (a 13)), (1, .int (nI r)), (2, .int (x))] := hl
  refine lv_aload_n hx hb dX0_holds_0 rfl (lv_at hl 0 rfl) ?_
  refine lv_iload_n hx hb dX0_holds_1 rfl (lv_at hl 1 rfl) ?_
  refine kn_X0_requireTrader hC (c_X0_requireTrader l D cI cQ a S hI (r := r) (by omega)) hB rfl ⟨rfl, rfl⟩ ⟨Nat.le_of_ble_eq_true rfl, Nat.le_of_ble_eq_true rfl⟩ ⟨Nat.zero_le _, Nat.zero_le _⟩ hl.1 rfl (Nat.le_of_ble_eq_true rfl) dX0_holds_2 ?_
  refine lv_aload_n hx hb dX0_holds_5 rfl (lv_at hl 0 rfl) ?_
  refine lv_iload_n hx hb dX0_holds_6 rfl (lv_at hl 2 rfl) ?_
  exact kVx hC (t_X0_requireTower l hl9 D cI cQ a S hI hbad) mov_B hB hX hH (rec_B hB) (good_V mw_95 mw_96 mw_97 mw_2 mw_98) rfl rfl ⟨rfl, by decide +kernel, by decide +kernel, show (parseMethodDescriptor yX0_requireTower.desc).map (fun d => d.parameters.length) = some 1 by decide +kernel⟩ ⟨Nat.le_of_ble_eq_true rfl, Nat.le_of_ble_eq_true rfl⟩ ⟨Nat.le_of_ble_eq_true rfl, Nat.le_of_ble_eq_true rfl⟩ hl.1 rfl (Nat.le_of_ble_eq_true rfl) dX0_holds_7 hxt hlocks
set_option maxHeartbeats 4000000 in
set_option maxRecDepth 100000 in
theorem t_X0_bestToSell_r (l : Launch) (hl9 : l.stackTraces = false) (D : va_G) (cI cQ : ClassId) (a : Nat → Nat) (S : bS) {T R : Nat} {x y : Int32} (hI : BI S T R) (hbad : ¬ ∃ r : Nat, r < R ∧ x = nI r) : Th l yX0_bestToSell cX0_bestToSell 6 (some .int) ({ frames := 7, cells := 1, slots := 6, locals := 110 } : Room) (BW D cI cQ a S) [.ref (a 13), .int (x), .int (y)] eIO := by
  refine Th.of (by decide) (Nat.le_of_ble_eq_true rfl) ?_
  intro p e s m args below meth c ls hC hlocks hxt hB hX hH hl
  have hx0 := hC.1
  have hx := hC.1
  have hb := hC.2.1
  obtain ⟨hT, hR, hT8, hR6⟩ := id hI
  have hl : lv_has ls 6 [(0, .ref (a 13)), (1, .int (x)), (2, .int (y))] := hl
  refine lv_aload_n hx hb dX0_bestToSell_0 rfl (lv_at hl 0 rfl) ?_
  refine lv_iload_n hx hb dX0_bestToSell_1 rfl (lv_at hl 1 rfl) ?_
  exact kVx hC (t_X0_requireTrader l hl9 D cI cQ a S hI hbad) mov_B hB hX hH (rec_B hB) (good_V mw_89 mw_90 mw_91 mw_2 mw_92) rfl rfl ⟨rfl, by decide +kernel, by decide +kernel, show (parseMethodDescriptor yX0_requireTrader.desc).map (fun d => d.parameters.length) = some 1 by decide +kernel⟩ ⟨Nat.le_of_ble_eq_true rfl, Nat.le_of_ble_eq_true rfl⟩ ⟨Nat.le_of_ble_eq_true rfl, Nat.le_of_ble_eq_true rfl⟩ hl.1 rfl (Nat.le_of_ble_eq_true rfl) dX0_bestToSell_2 hxt hlocks
set_option maxHeartbeats 4000000 in
set_option maxRecDepth 100000 in
theorem t_X0_bestToSell_t (l : Launch) (hl9 : l.stackTraces = false) (D : va_G) (cI cQ : ClassId) (a : Nat → Nat) (S : bS) {T R : Nat} {r : Nat} {x : Int32} (hI : BI S T R) (hr9 : r < R) (hbad : ¬ ∃ t : Nat, t < T ∧ x = nI t) : Th l yX0_bestToSell cX0_bestToSell 6 (some .int) ({ frames := 7, cells := 1, slots := 6, locals := 110 } : Room) (BW D cI cQ a S) [.ref (a 13), .int (nI r), .int (x)] eIO := by
  refine Th.of (by decide) (Nat.le_of_ble_eq_true rfl) ?_
  intro p e s m args below meth c ls hC hlocks hxt hB hX hH hl
  have hx0 := hC.1
  have hx := hC.1
  have hb := hC.2.1
  obtain ⟨hT, hR, hT8, hR6⟩ := id hI
  have hl : lv_has ls 6 [(0, .ref (a 13)), (1, .int (nI r)), (2, .int (x))] := hl
  refine lv_aload_n hx hb dX0_bestToSell_0 rfl (lv_at hl 0 rfl) ?_
  refine lv_iload_n hx hb dX0_bestToSell_1 rfl (lv_at hl 1 rfl) ?_
  refine kn_X0_requireTrader hC (c_X0_requireTrader l D cI cQ a S hI (r := r) (by omega)) hB rfl ⟨rfl, rfl⟩ ⟨Nat.le_of_ble_eq_true rfl, Nat.le_of_ble_eq_true rfl⟩ ⟨Nat.zero_le _, Nat.zero_le _⟩ hl.1 rfl (Nat.le_of_ble_eq_true rfl) dX0_bestToSell_2 ?_
  refine lv_aload_n hx hb dX0_bestToSell_5 rfl (lv_at hl 0 rfl) ?_
  refine lv_iload_n hx hb dX0_bestToSell_6 rfl (lv_at hl 2 rfl) ?_
  exact kVx hC (t_X0_requireTower l hl9 D cI cQ a S hI hbad) mov_B hB hX hH (rec_B hB) (good_V mw_95 mw_96 mw_97 mw_2 mw_98) rfl rfl ⟨rfl, by decide +kernel, by decide +kernel, show (parseMethodDescriptor yX0_requireTower.desc).map (fun d => d.parameters.length) = some 1 by decide +kernel⟩ ⟨Nat.le_of_ble_eq_true rfl, Nat.le_of_ble_eq_true rfl⟩ ⟨Nat.le_of_ble_eq_true rfl, Nat.le_of_ble_eq_true rfl⟩ hl.1 rfl (Nat.le_of_ble_eq_true rfl) dX0_bestToSell_7 hxt hlocks
set_option maxHeartbeats 4000000 in
set_option maxRecDepth 100000 in
theorem t_X0_priceIn_t (l : Launch) (hl9 : l.stackTraces = false) (D : va_G) (cI cQ : ClassId) (a : Nat → Nat) (S : bS) {T R : Nat} {x y : Int32} (hI : BI S T R) (hbad : ¬ ∃ t : Nat, t < T ∧ x = nI t) : Th l yX0_priceIn cX0_priceIn 3 (some .int) ({ frames := 7, cells := 1, slots := 6, locals := 110 } : Room) (BW D cI cQ a S) [.ref (a 13), .int (x), .int (y)] eIO := by
  refine Th.of (by decide) (Nat.le_of_ble_eq_true rfl) ?_
  intro p e s m args below meth c ls hC hlocks hxt hB hX hH hl
  have hx0 := hC.1
  have hx := hC.1
  have hb := hC.2.1
  obtain ⟨hT, hR, hT8, hR6⟩ := id hI
  have hl : lv_has ls 3 [(0, .ref (a 13)), (1, .int (x)), (2, .int (y))] := hl
  refine lv_aload_n hx hb dX0_priceIn_0 rfl (lv_at hl 0 rfl) ?_
  refine lv_iload_n hx hb dX0_priceIn_1 rfl (lv_at hl 1 rfl) ?_
  exact kVx hC (t_X0_requireTower l hl9 D cI cQ a S hI hbad) mov_B hB hX hH (rec_B hB) (good_V mw_95 mw_96 mw_97 mw_2 mw_98) rfl rfl ⟨rfl, by decide +kernel, by decide +kernel, show (parseMethodDescriptor yX0_requireTower.desc).map (fun d => d.parameters.length) = some 1 by decide +kernel⟩ ⟨Nat.le_of_ble_eq_true rfl, Nat.le_of_ble_eq_true rfl⟩ ⟨Nat.le_of_ble_eq_true rfl, Nat.le_of_ble_eq_true rfl⟩ hl.1 rfl (Nat.le_of_ble_eq_true rfl) dX0_priceIn_2 hxt hlocks
set_option maxHeartbeats 4000000 in
set_option maxRecDepth 100000 in
theorem t_X0_priceIn_k (l : Launch) (hl9 : l.stackTraces = false) (D : va_G) (cI cQ : ClassId) (a : Nat → Nat) (S : bS) {T R : Nat} {t : Nat} {x : Int32} (hI : BI S T R) (ht : t < T) (hbad : ¬ ∃ k : Nat, 1 ≤ k ∧ k ≤ 60 ∧ x = nI k) : Th l yX0_priceIn cX0_priceIn 3 (some .int) ({ frames := 7, cells := 1, slots := 6, locals := 110 } : Room) (BW D cI cQ a S) [.ref (a 13), .int (nI t), .int (x)] eIA := by
  refine Th.of (by decide) (Nat.le_of_ble_eq_true rfl) ?_
  intro p e s m args below meth c ls hC hlocks hxt hB hX hH hl
  have hx0 := hC.1
  have hx := hC.1
  have hb := hC.2.1
  obtain ⟨hT, hR, hT8, hR6⟩ := id hI
  have hl : lv_has ls 3 [(0, .ref (a 13)), (1, .int (nI t)), (2, .int (x))] := hl
  refine lv_aload_n hx hb dX0_priceIn_0 rfl (lv_at hl 0 rfl) ?_
  refine lv_iload_n hx hb dX0_priceIn_1 rfl (lv_at hl 1 rfl) ?_
  refine kn_X0_requireTower hC (c_X0_requireTower l D cI cQ a S hI (t := t) (by omega)) hB rfl ⟨rfl, rfl⟩ ⟨Nat.le_of_ble_eq_true rfl, Nat.le_of_ble_eq_true rfl⟩ ⟨Nat.zero_le _, Nat.zero_le _⟩ hl.1 rfl (Nat.le_of_ble_eq_true rfl) dX0_priceIn_2 ?_
  refine lv_iload_n hx hb dX0_priceIn_5 rfl (lv_at hl 2 rfl) ?_
  exact kSx hC (t_X0_requirePassable l hl9 hbad) mov_T trivial hX hH (good_S mw_174 mw_175 mw_2 mw_176) rfl rfl ⟨by decide +kernel, by decide +kernel, show (parseMethodDescriptor yX0_requirePassable.desc).map (fun d => d.parameters.length) = some 1 by decide +kernel⟩ ⟨Nat.le_of_ble_eq_true rfl, Nat.le_of_ble_eq_true rfl⟩ ⟨Nat.le_of_ble_eq_true rfl, Nat.le_of_ble_eq_true rfl⟩ hl.1 rfl (Nat.le_of_ble_eq_true rfl) dX0_priceIn_6 hxt hlocks
set_option maxHeartbeats 4000000 in
set_option maxRecDepth 100000 in
theorem t_X0_worthIn_r (l : Launch) (hl9 : l.stackTraces = false) (D : va_G) (cI cQ : ClassId) (a : Nat → Nat) (S : bS) {T R : Nat} {x y : Int32} (hI : BI S T R) (hbad : ¬ ∃ r : Nat, r < R ∧ x = nI r) : Th l yX0_worthIn cX0_worthIn 3 (some .int) ({ frames := 7, cells := 1, slots := 6, locals := 110 } : Room) (BW D cI cQ a S) [.ref (a 13), .int (x), .int (y)] eIO := by
  refine Th.of (by decide) (Nat.le_of_ble_eq_true rfl) ?_
  intro p e s m args below meth c ls hC hlocks hxt hB hX hH hl
  have hx0 := hC.1
  have hx := hC.1
  have hb := hC.2.1
  obtain ⟨hT, hR, hT8, hR6⟩ := id hI
  have hl : lv_has ls 3 [(0, .ref (a 13)), (1, .int (x)), (2, .int (y))] := hl
  refine lv_aload_n hx hb dX0_worthIn_0 rfl (lv_at hl 0 rfl) ?_
  refine lv_iload_n hx hb dX0_worthIn_1 rfl (lv_at hl 1 rfl) ?_
  exact kVx hC (t_X0_requireTrader l hl9 D cI cQ a S hI hbad) mov_B hB hX hH (rec_B hB) (good_V mw_89 mw_90 mw_91 mw_2 mw_92) rfl rfl ⟨rfl, by decide +kernel, by decide +kernel, show (parseMethodDescriptor yX0_requireTrader.desc).map (fun d => d.parameters.length) = some 1 by decide +kernel⟩ ⟨Nat.le_of_ble_eq_true rfl, Nat.le_of_ble_eq_true rfl⟩ ⟨Nat.le_of_ble_eq_true rfl, Nat.le_of_ble_eq_true rfl⟩ hl.1 rfl (Nat.le_of_ble_eq_true rfl) dX0_worthIn_2 hxt hlocks
set_option maxHeartbeats 4000000 in
set_option maxRecDepth 100000 in
theorem t_X0_worthIn_k (l : Launch) (hl9 : l.stackTraces = false) (D : va_G) (cI cQ : ClassId) (a : Nat → Nat) (S : bS) {T R : Nat} {r : Nat} {x : Int32} (hI : BI S T R) (hr9 : r < R) (hbad : ¬ ∃ k : Nat, 1 ≤ k ∧ k ≤ 60 ∧ x = nI k) : Th l yX0_worthIn cX0_worthIn 3 (some .int) ({ frames := 7, cells := 1, slots := 6, locals := 110 } : Room) (BW D cI cQ a S) [.ref (a 13), .int (nI r), .int (x)] eIA := by
  refine Th.of (by decide) (Nat.le_of_ble_eq_true rfl) ?_
  intro p e s m args below meth c ls hC hlocks hxt hB hX hH hl
  have hx0 := hC.1
  have hx := hC.1
  have hb := hC.2.1
  obtain ⟨hT, hR, hT8, hR6⟩ := id hI
  have hl : lv_has ls 3 [(0, .ref (a 13)), (1, .int (nI r)), (2, .int (x))] := hl
  refine lv_aload_n hx hb dX0_worthIn_0 rfl (lv_at hl 0 rfl) ?_
  refine lv_iload_n hx hb dX0_worthIn_1 rfl (lv_at hl 1 rfl) ?_
  refine kn_X0_requireTrader hC (c_X0_requireTrader l D cI cQ a S hI (r := r) (by omega)) hB rfl ⟨rfl, rfl⟩ ⟨Nat.le_of_ble_eq_true rfl, Nat.le_of_ble_eq_true rfl⟩ ⟨Nat.zero_le _, Nat.zero_le _⟩ hl.1 rfl (Nat.le_of_ble_eq_true rfl) dX0_worthIn_2 ?_
  refine lv_iload_n hx hb dX0_worthIn_5 rfl (lv_at hl 2 rfl) ?_
  exact kSx hC (t_X0_requirePassable l hl9 hbad) mov_T trivial hX hH (good_S mw_174 mw_175 mw_2 mw_176) rfl rfl ⟨by decide +kernel, by decide +kernel, show (parseMethodDescriptor yX0_requirePassable.desc).map (fun d => d.parameters.length) = some 1 by decide +kernel⟩ ⟨Nat.le_of_ble_eq_true rfl, Nat.le_of_ble_eq_true rfl⟩ ⟨Nat.le_of_ble_eq_true rfl, Nat.le_of_ble_eq_true rfl⟩ hl.1 rfl (Nat.le_of_ble_eq_true rfl) dX0_worthIn_6 hxt hlocks
set_option maxHeartbeats 4000000 in
set_option maxRecDepth 100000 in
theorem t_X0_pass_k (l : Launch) (hl9 : l.stackTraces = false) (D : va_G) (cI cQ : ClassId) (a : Nat → Nat) (S : bS) {T R : Nat} {x : Int32} (hI : BI S T R) (hbad : ¬ ∃ k : Nat, 1 ≤ k ∧ k ≤ 60 ∧ x = nI k) : Th l yX0_pass cX0_pass 4 (some .int) ({ frames := 7, cells := 1, slots := 6, locals := 110 } : Room) (BW D cI cQ a S) [.ref (a 13), .int (x)] eIA := by
  refine Th.of (by decide) (Nat.le_of_ble_eq_true rfl) ?_
  intro p e s m args below meth c ls hC hlocks hxt hB hX hH hl
  have hx0 := hC.1
  have hx := hC.1
  have hb := hC.2.1
  obtain ⟨hT, hR, hT8, hR6⟩ := id hI
  have hl : lv_has ls 4 [(0, .ref (a 13)), (1, .int (x))] := hl
  refine lv_iload_n hx hb dX0_pass_0 rfl (lv_at hl 1 rfl) ?_
  exact kSx hC (t_X0_requirePassable l hl9 hbad) mov_T trivial hX hH (good_S mw_174 mw_175 mw_2 mw_176) rfl rfl ⟨by decide +kernel, by decide +kernel, show (parseMethodDescriptor yX0_requirePassable.desc).map (fun d => d.parameters.length) = some 1 by decide +kernel⟩ ⟨Nat.le_of_ble_eq_true rfl, Nat.le_of_ble_eq_true rfl⟩ ⟨Nat.le_of_ble_eq_true rfl, Nat.le_of_ble_eq_true rfl⟩ hl.1 rfl (Nat.le_of_ble_eq_true rfl) dX0_pass_1 hxt hlocks
set_option maxHeartbeats 4000000 in
set_option maxRecDepth 100000 in
theorem t_X0_buy_r (l : Launch) (hl9 : l.stackTraces = false) (D : va_G) (cI cQ : ClassId) (a : Nat → Nat) (S : bS) {T R : Nat} {x y z : Int32} (hI : BI S T R) (hbad : ¬ ∃ r : Nat, r < R ∧ x = nI r) : Th l yX0_buy cX0_buy 5 (some .int) ({ frames := 7, cells := 1, slots := 6, locals := 110 } : Room) (BW D cI cQ a S) [.ref (a 13), .int (x), .int (y), .int (z)] eIO := by
  refine Th.of (by decide) (Nat.le_of_ble_eq_true rfl) ?_
  intro p e s m args below meth c ls hC hlocks hxt hB hX hH hl
  have hx0 := hC.1
  have hx := hC.1
  have hb := hC.2.1
  obtain ⟨hT, hR, hT8, hR6⟩ := id hI
  have hl : lv_has ls 5 [(0, .ref (a 13)), (1, .int (x)), (2, .int (y)), (3, .int (z))] := hl
  refine lv_aload_n hx hb dX0_buy_0 rfl (lv_at hl 0 rfl) ?_
  refine lv_iload_n hx hb dX0_buy_1 rfl (lv_at hl 1 rfl) ?_
  exact kVx hC (t_X0_requireTrader l hl9 D cI cQ a S hI hbad) mov_B hB hX hH (rec_B hB) (good_V mw_89 mw_90 mw_91 mw_2 mw_92) rfl rfl ⟨rfl, by decide +kernel, by decide +kernel, show (parseMethodDescriptor yX0_requireTrader.desc).map (fun d => d.parameters.length) = some 1 by decide +kernel⟩ ⟨Nat.le_of_ble_eq_true rfl, Nat.le_of_ble_eq_true rfl⟩ ⟨Nat.le_of_ble_eq_true rfl, Nat.le_of_ble_eq_true rfl⟩ hl.1 rfl (Nat.le_of_ble_eq_true rfl) dX0_buy_2 hxt hlocks
set_option maxHeartbeats 4000000 in
set_option maxRecDepth 100000 in
theorem t_X0_buy_t (l : Launch) (hl9 : l.stackTraces = false) (D : va_G) (cI cQ : ClassId) (a : Nat → Nat) (S : bS) {T R : Nat} {r : Nat} {x y : Int32} (hI : BI S T R) (hr9 : r < R) (hbad : ¬ ∃ t : Nat, t < T ∧ x = nI t) : Th l yX0_buy cX0_buy 5 (some .int) ({ frames := 7, cells := 1, slots := 6, locals := 110 } : Room) (BW D cI cQ a S) [.ref (a 13), .int (nI r), .int (x), .int (y)] eIO := by
  refine Th.of (by decide) (Nat.le_of_ble_eq_true rfl) ?_
  intro p e s m args below meth c ls hC hlocks hxt hB hX hH hl
  have hx0 := hC.1
  have hx := hC.1
  have hb := hC.2.1
  obtain ⟨hT, hR, hT8, hR6⟩ := id hI
  have hl : lv_has ls 5 [(0, .ref (a 13)), (1, .int (nI r)), (2, .int (x)), (3, .int (y))] := hl
  refine lv_aload_n hx hb dX0_buy_0 rfl (lv_at hl 0 rfl) ?_
  refine lv_iload_n hx hb dX0_buy_1 rfl (lv_at hl 1 rfl) ?_
  refine kn_X0_requireTrader hC (c_X0_requireTrader l D cI cQ a S hI (r := r) (by omega)) hB rfl ⟨rfl, rfl⟩ ⟨Nat.le_of_ble_eq_true rfl, Nat.le_of_ble_eq_true rfl⟩ ⟨Nat.zero_le _, Nat.zero_le _⟩ hl.1 rfl (Nat.le_of_ble_eq_true rfl) dX0_buy_2 ?_
  refine lv_aload_n hx hb dX0_buy_5 rfl (lv_at hl 0 rfl) ?_
  refine lv_iload_n hx hb dX0_buy_6 rfl (lv_at hl 2 rfl) ?_
  exact kVx hC (t_X0_requireTower l hl9 D cI cQ a S hI hbad) mov_B hB hX hH (rec_B hB) (good_V mw_95 mw_96 mw_97 mw_2 mw_98) rfl rfl ⟨rfl, by decide +kernel, by decide +kernel, show (parseMethodDescriptor yX0_requireTower.desc).map (fun d => d.parameters.length) = some 1 by decide +kernel⟩ ⟨Nat.le_of_ble_eq_true rfl, Nat.le_of_ble_eq_true rfl⟩ ⟨Nat.le_of_ble_eq_true rfl, Nat.le_of_ble_eq_true rfl⟩ hl.1 rfl (Nat.le_of_ble_eq_true rfl) dX0_buy_7 hxt hlocks
set_option maxHeartbeats 4000000 in
set_option maxRecDepth 100000 in
theorem t_X0_buy_k (l : Launch) (hl9 : l.stackTraces = false) (D : va_G) (cI cQ : ClassId) (a : Nat → Nat) (S : bS) {T R : Nat} {r t : Nat} {x : Int32} (hI : BI S T R) (hr9 : r < R) (ht : t < T) (hbad : ¬ ∃ k : Nat, 1 ≤ k ∧ k ≤ 9 ∧ x = nI k) : Th l yX0_buy cX0_buy 5 (some .int) ({ frames := 7, cells := 1, slots := 6, locals := 110 } : Room) (BW D cI cQ a S) [.ref (a 13), .int (nI r), .int (nI t), .int (x)] eIA := by
  refine Th.of (by decide) (Nat.le_of_ble_eq_true rfl) ?_
  intro p e s m args below meth c ls hC hlocks hxt hB hX hH hl
  have hx0 := hC.1
  have hx := hC.1
  have hb := hC.2.1
  obtain ⟨hT, hR, hT8, hR6⟩ := id hI
  have hl : lv_has ls 5 [(0, .ref (a 13)), (1, .int (nI r)), (2, .int (nI t)), (3, .int (x))] := hl
  refine lv_aload_n hx hb dX0_buy_0 rfl (lv_at hl 0 rfl) ?_
  refine lv_iload_n hx hb dX0_buy_1 rfl (lv_at hl 1 rfl) ?_
  refine kn_X0_requireTrader hC (c_X0_requireTrader l D cI cQ a S hI (r := r) (by omega)) hB rfl ⟨rfl, rfl⟩ ⟨Nat.le_of_ble_eq_true rfl, Nat.le_of_ble_eq_true rfl⟩ ⟨Nat.zero_le _, Nat.zero_le _⟩ hl.1 rfl (Nat.le_of_ble_eq_true rfl) dX0_buy_2 ?_
  refine lv_aload_n hx hb dX0_buy_5 rfl (lv_at hl 0 rfl) ?_
  refine lv_iload_n hx hb dX0_buy_6 rfl (lv_at hl 2 rfl) ?_
  refine kn_X0_requireTower hC (c_X0_requireTower l D cI cQ a S hI (t := t) (by omega)) hB rfl ⟨rfl, rfl⟩ ⟨Nat.le_of_ble_eq_true rfl, Nat.le_of_ble_eq_true rfl⟩ ⟨Nat.zero_le _, Nat.zero_le _⟩ hl.1 rfl (Nat.le_of_ble_eq_true rfl) dX0_buy_7 ?_
  refine lv_iload_n hx hb dX0_buy_10 rfl (lv_at hl 3 rfl) ?_
  exact kSx hC (t_X0_requireTradable l hl9 hbad) mov_T trivial hX hH (good_S mw_99 mw_100 mw_2 mw_101) rfl rfl ⟨by decide +kernel, by decide +kernel, show (parseMethodDescriptor yX0_requireTradable.desc).map (fun d => d.parameters.length) = some 1 by decide +kernel⟩ ⟨Nat.le_of_ble_eq_true rfl, Nat.le_of_ble_eq_true rfl⟩ ⟨Nat.le_of_ble_eq_true rfl, Nat.le_of_ble_eq_true rfl⟩ hl.1 rfl (Nat.le_of_ble_eq_true rfl) dX0_buy_11 hxt hlocks
set_option maxHeartbeats 4000000 in
set_option maxRecDepth 100000 in
theorem t_X0_sell_r (l : Launch) (hl9 : l.stackTraces = false) (D : va_G) (cI cQ : ClassId) (a : Nat → Nat) (S : bS) {T R : Nat} {x y z : Int32} (hI : BI S T R) (hbad : ¬ ∃ r : Nat, r < R ∧ x = nI r) : Th l yX0_sell cX0_sell 5 (some .int) ({ frames := 7, cells := 1, slots := 6, locals := 110 } : Room) (BW D cI cQ a S) [.ref (a 13), .int (x), .int (y), .int (z)] eIO := by
  refine Th.of (by decide) (Nat.le_of_ble_eq_true rfl) ?_
  intro p e s m args below meth c ls hC hlocks hxt hB hX hH hl
  have hx0 := hC.1
  have hx := hC.1
  have hb := hC.2.1
  obtain ⟨hT, hR, hT8, hR6⟩ := id hI
  have hl : lv_has ls 5 [(0, .ref (a 13)), (1, .int (x)), (2, .int (y)), (3, .int (z))] := hl
  refine lv_aload_n hx hb dX0_sell_0 rfl (lv_at hl 0 rfl) ?_
  refine lv_iload_n hx hb dX0_sell_1 rfl (lv_at hl 1 rfl) ?_
  exact kVx hC (t_X0_requireTrader l hl9 D cI cQ a S hI hbad) mov_B hB hX hH (rec_B hB) (good_V mw_89 mw_90 mw_91 mw_2 mw_92) rfl rfl ⟨rfl, by decide +kernel, by decide +kernel, show (parseMethodDescriptor yX0_requireTrader.desc).map (fun d => d.parameters.length) = some 1 by decide +kernel⟩ ⟨Nat.le_of_ble_eq_true rfl, Nat.le_of_ble_eq_true rfl⟩ ⟨Nat.le_of_ble_eq_true rfl, Nat.le_of_ble_eq_true rfl⟩ hl.1 rfl (Nat.le_of_ble_eq_true rfl) dX0_sell_2 hxt hlocks
set_option maxHeartbeats 4000000 in
set_option maxRecDepth 100000 in
theorem t_X0_sell_t (l : Launch) (hl9 : l.stackTraces = false) (D : va_G) (cI cQ : ClassId) (a : Nat → Nat) (S : bS) {T R : Nat} {r : Nat} {x y : Int32} (hI : BI S T R) (hr9 : r < R) (hbad : ¬ ∃ t : Nat, t < T ∧ x = nI t) : Th l yX0_sell cX0_sell 5 (some .int) ({ frames := 7, cells := 1, slots := 6, locals := 110 } : Room) (BW D cI cQ a S) [.ref (a 13), .int (nI r), .int (x), .int (y)] eIO := by
  refine Th.of (by decide) (Nat.le_of_ble_eq_true rfl) ?_
  intro p e s m args below meth c ls hC hlocks hxt hB hX hH hl
  have hx0 := hC.1
  have hx := hC.1
  have hb := hC.2.1
  obtain ⟨hT, hR, hT8, hR6⟩ := id hI
  have hl : lv_has ls 5 [(0, .ref (a 13)), (1, .int (nI r)), (2, .int (x)), (3, .int (y))] := hl
  refine lv_aload_n hx hb dX0_sell_0 rfl (lv_at hl 0 rfl) ?_
  refine lv_iload_n hx hb dX0_sell_1 rfl (lv_at hl 1 rfl) ?_
  refine kn_X0_requireTrader hC (c_X0_requireTrader l D cI cQ a S hI (r := r) (by omega)) hB rfl ⟨rfl, rfl⟩ ⟨Nat.le_of_ble_eq_true rfl, Nat.le_of_ble_eq_true rfl⟩ ⟨Nat.zero_le _, Nat.zero_le _⟩ hl.1 rfl (Nat.le_of_ble_eq_true rfl) dX0_sell_2 ?_
  refine lv_aload_n hx hb dX0_sell_5 rfl (lv_at hl 0 rfl) ?_
  refine lv_iload_n hx hb dX0_sell_6 rfl (lv_at hl 2 rfl) ?_
  exact kVx hC (t_X0_requireTower l hl9 D cI cQ a S hI hbad) mov_B hB hX hH (rec_B hB) (good_V mw_95 mw_96 mw_97 mw_2 mw_98) rfl rfl ⟨rfl, by decide +kernel, by decide +kernel, show (parseMethodDescriptor yX0_requireTower.desc).map (fun d => d.parameters.length) = some 1 by decide +kernel⟩ ⟨Nat.le_of_ble_eq_true rfl, Nat.le_of_ble_eq_true rfl⟩ ⟨Nat.le_of_ble_eq_true rfl, Nat.le_of_ble_eq_true rfl⟩ hl.1 rfl (Nat.le_of_ble_eq_true rfl) dX0_sell_7 hxt hlocks
set_option maxHeartbeats 4000000 in
set_option maxRecDepth 100000 in
theorem t_X0_sell_k (l : Launch) (hl9 : l.stackTraces = false) (D : va_G) (cI cQ : ClassId) (a : Nat → Nat) (S : bS) {T R : Nat} {r t : Nat} {x : Int32} (hI : BI S T R) (hr9 : r < R) (ht : t < T) (hbad : ¬ ∃ k : Nat, 1 ≤ k ∧ k ≤ 9 ∧ x = nI k) : Th l yX0_sell cX0_sell 5 (some .int) ({ frames := 7, cells := 1, slots := 6, locals := 110 } : Room) (BW D cI cQ a S) [.ref (a 13), .int (nI r), .int (nI t), .int (x)] eIA := by
  refine Th.of (by decide) (Nat.le_of_ble_eq_true rfl) ?_
  intro p e s m args below meth c ls hC hlocks hxt hB hX hH hl
  have hx0 := hC.1
  have hx := hC.1
  have hb := hC.2.1
  obtain ⟨hT, hR, hT8, hR6⟩ := id hI
  have hl : lv_has ls 5 [(0, .ref (a 13)), (1, .int (nI r)), (2, .int (nI t)), (3, .int (x))] := hl
  refine lv_aload_n hx hb dX0_sell_0 rfl (lv_at hl 0 rfl) ?_
  refine lv_iload_n hx hb dX0_sell_1 rfl (lv_at hl 1 rfl) ?_
  refine kn_X0_requireTrader hC (c_X0_requireTrader l D cI cQ a S hI (r := r) (by omega)) hB rfl ⟨rfl, rfl⟩ ⟨Nat.le_of_ble_eq_true rfl, Nat.le_of_ble_eq_true rfl⟩ ⟨Nat.zero_le _, Nat.zero_le _⟩ hl.1 rfl (Nat.le_of_ble_eq_true rfl) dX0_sell_2 ?_
  refine lv_aload_n hx hb dX0_sell_5 rfl (lv_at hl 0 rfl) ?_
  refine lv_iload_n hx hb dX0_sell_6 rfl (lv_at hl 2 rfl) ?_
  refine kn_X0_requireTower hC (c_X0_requireTower l D cI cQ a S hI (t := t) (by omega)) hB rfl ⟨rfl, rfl⟩ ⟨Nat.le_of_ble_eq_true rfl, Nat.le_of_ble_eq_true rfl⟩ ⟨Nat.zero_le _, Nat.zero_le _⟩ hl.1 rfl (Nat.le_of_ble_eq_true rfl) dX0_sell_7 ?_
  refine lv_iload_n hx hb dX0_sell_10 rfl (lv_at hl 3 rfl) ?_
  exact kSx hC (t_X0_requireTradable l hl9 hbad) mov_T trivial hX hH (good_S mw_99 mw_100 mw_2 mw_101) rfl rfl ⟨by decide +kernel, by decide +kernel, show (parseMethodDescriptor yX0_requireTradable.desc).map (fun d => d.parameters.length) = some 1 by decide +kernel⟩ ⟨Nat.le_of_ble_eq_true rfl, Nat.le_of_ble_eq_true rfl⟩ ⟨Nat.le_of_ble_eq_true rfl, Nat.le_of_ble_eq_true rfl⟩ hl.1 rfl (Nat.le_of_ble_eq_true rfl) dX0_sell_11 hxt hlocks
set_option maxHeartbeats 4000000 in
set_option maxRecDepth 100000 in
theorem t_X0_buy_l (l : Launch) (hl9 : l.stackTraces = false) (D : va_G) (cI cQ : ClassId) (a : Nat → Nat) (S : bS) {T R : Nat} {r t k : Nat} (hI : BI S T R) (hr9 : r < R) (ht : t < T) (hk1 : 1 ≤ k) (hk9 : k ≤ 9) (h1 : ¬ S (7 + r) t + nI k ≤ 9) : Th l yX0_buy cX0_buy 5 (some .int) ({ frames := 7, cells := 1, slots := 6, locals := 110 } : Room) (BW D cI cQ a S) [.ref (a 13), .int (nI r), .int (nI t), .int (nI k)] eIS := by
  refine Th.of (by decide) (Nat.le_of_ble_eq_true rfl) ?_
  intro p e s m args below meth c ls hC hlocks hxt hB hX hH hl
  have hx0 := hC.1
  have hx := hC.1
  have hb := hC.2.1
  obtain ⟨hT, hR, hT8, hR6⟩ := id hI
  have hl : lv_has ls 5 [(0, .ref (a 13)), (1, .int (nI r)), (2, .int (nI t)), (3, .int (nI k))] := hl
  refine lv_aload_n hx hb dX0_buy_0 rfl (lv_at hl 0 rfl) ?_
  refine lv_iload_n hx hb dX0_buy_1 rfl (lv_at hl 1 rfl) ?_
  refine kn_X0_requireTrader hC (c_X0_requireTrader l D cI cQ a S hI (r := r) (by omega)) hB rfl ⟨rfl, rfl⟩ ⟨Nat.le_of_ble_eq_true rfl, Nat.le_of_ble_eq_true rfl⟩ ⟨Nat.zero_le _, Nat.zero_le _⟩ hl.1 rfl (Nat.le_of_ble_eq_true rfl) dX0_buy_2 ?_
  refine lv_aload_n hx hb dX0_buy_5 rfl (lv_at hl 0 rfl) ?_
  refine lv_iload_n hx hb dX0_buy_6 rfl (lv_at hl 2 rfl) ?_
  refine kn_X0_requireTower hC (c_X0_requireTower l D cI cQ a S hI (t := t) (by omega)) hB rfl ⟨rfl, rfl⟩ ⟨Nat.le_of_ble_eq_true rfl, Nat.le_of_ble_eq_true rfl⟩ ⟨Nat.zero_le _, Nat.zero_le _⟩ hl.1 rfl (Nat.le_of_ble_eq_true rfl) dX0_buy_7 ?_
  refine lv_iload_n hx hb dX0_buy_10 rfl (lv_at hl 3 rfl) ?_
  refine kn_X0_requireTradable hC (c_X0_requireTradable l (k := k) (by omega) (by omega)) mov_T trivial rfl ⟨rfl, rfl⟩ ⟨Nat.le_of_ble_eq_true rfl, Nat.le_of_ble_eq_true rfl⟩ ⟨Nat.zero_le _, Nat.zero_le _⟩ hl.1 rfl (Nat.le_of_ble_eq_true rfl) dX0_buy_11 ?_
  refine lv_aload_n hx hb dX0_buy_14 rfl (lv_at hl 0 rfl) ?_
  refine lv_iload_n hx hb dX0_buy_15 rfl (lv_at hl 2 rfl) ?_
  refine k_X0_priceNow hC (c_X0_priceNow l D cI cQ a S hI (t := t) (by omega)) hB rfl ⟨rfl, rfl⟩ ⟨Nat.le_of_ble_eq_true rfl, Nat.le_of_ble_eq_true rfl⟩ ⟨Nat.zero_le _, Nat.zero_le _⟩ hl.1 rfl (Nat.le_of_ble_eq_true rfl) dX0_buy_16 ?_
  refine lv_iload_n hx hb dX0_buy_19 rfl (lv_at hl 3 rfl) ?_
  refine lv_imul hx hb dX0_buy_20 ?_
  refine lv_istore (lv' := [(4, .int ((bPr S R t) * (nI k))), (0, .ref (a 13)), (1, .int (nI r)), (2, .int (nI t)), (3, .int (nI k))]) hx hb dX0_buy_21 hl (by decide) rfl (fun ls hl => ?_)
  refine lv_aload_n hx hb dX0_buy_23 rfl (lv_at hl 1 rfl) ?_
  refine gB_held hC hB dX0_buy_24 ?_
  refine lv_iload_n hx hb dX0_buy_27 rfl (lv_at hl 2 rfl) ?_
  refine lB_row (r) hC hB rfl (by omega) dX0_buy_28 ?_
  refine lv_iload_n hx hb dX0_buy_29 rfl (lv_at hl 3 rfl) ?_
  refine lB_held (r) (t) hC hB (by omega) rfl (by omega) rfl dX0_buy_30 ?_
  refine lv_iload_n hx hb dX0_buy_31 rfl (lv_at hl 4 rfl) ?_
  refine lv_iadd hx hb dX0_buy_32 ?_
  refine lv_bipush (v := 9) hx hb dX0_buy_33 (by decide) ?_
  refine lv_icmp_le (tgt := 48) hx hb dX0_buy_35 (by decide) (fun c1 => ?_) (fun c1 => ?_)
  · exfalso; exact absurd c1 h1
  · exact thrIS (is := 81) hC hl9 hX hH (List.mem_of_getElem? (i := 5) rfl) hl.1 hxt hlocks (by decide) dX0_buy_38 dX0_buy_41 dX0_buy_42 dX0_buy_44 dX0_buy_47
set_option maxHeartbeats 4000000 in
set_option maxRecDepth 100000 in
theorem t_X0_sell_l (l : Launch) (hl9 : l.stackTraces = false) (D : va_G) (cI cQ : ClassId) (a : Nat → Nat) (S : bS) {T R : Nat} {r t k : Nat} (hI : BI S T R) (hr9 : r < R) (ht : t < T) (hk1 : 1 ≤ k) (hk9 : k ≤ 9) (h1 : ¬ -9 ≤ S (7 + r) t - nI k) : Th l yX0_sell cX0_sell 5 (some .int) ({ frames := 7, cells := 1, slots := 6, locals := 110 } : Room) (BW D cI cQ a S) [.ref (a 13), .int (nI r), .int (nI t), .int (nI k)] eIS := by
  refine Th.of (by decide) (Nat.le_of_ble_eq_true rfl) ?_
  intro p e s m args below meth c ls hC hlocks hxt hB hX hH hl
  have hx0 := hC.1
  have hx := hC.1
  have hb := hC.2.1
  obtain ⟨hT, hR, hT8, hR6⟩ := id hI
  have hl : lv_has ls 5 [(0, .ref (a 13)), (1, .int (nI r)), (2, .int (nI t)), (3, .int (nI k))] := hl
  refine lv_aload_n hx hb dX0_sell_0 rfl (lv_at hl 0 rfl) ?_
  refine lv_iload_n hx hb dX0_sell_1 rfl (lv_at hl 1 rfl) ?_
  refine kn_X0_requireTrader hC (c_X0_requireTrader l D cI cQ a S hI (r := r) (by omega)) hB rfl ⟨rfl, rfl⟩ ⟨Nat.le_of_ble_eq_true rfl, Nat.le_of_ble_eq_true rfl⟩ ⟨Nat.zero_le _, Nat.zero_le _⟩ hl.1 rfl (Nat.le_of_ble_eq_true rfl) dX0_sell_2 ?_
  refine lv_aload_n hx hb dX0_sell_5 rfl (lv_at hl 0 rfl) ?_
  refine lv_iload_n hx hb dX0_sell_6 rfl (lv_at hl 2 rfl) ?_
  refine kn_X0_requireTower hC (c_X0_requireTower l D cI cQ a S hI (t := t) (by omega)) hB rfl ⟨rfl, rfl⟩ ⟨Nat.le_of_ble_eq_true rfl, Nat.le_of_ble_eq_true rfl⟩ ⟨Nat.zero_le _, Nat.zero_le _⟩ hl.1 rfl (Nat.le_of_ble_eq_true rfl) dX0_sell_7 ?_
  refine lv_iload_n hx hb dX0_sell_10 rfl (lv_at hl 3 rfl) ?_
  refine kn_X0_requireTradable hC (c_X0_requireTradable l (k := k) (by omega) (by omega)) mov_T trivial rfl ⟨rfl, rfl⟩ ⟨Nat.le_of_ble_eq_true rfl, Nat.le_of_ble_eq_true rfl⟩ ⟨Nat.zero_le _, Nat.zero_le _⟩ hl.1 rfl (Nat.le_of_ble_eq_true rfl) dX0_sell_11 ?_
  refine lv_aload_n hx hb dX0_sell_14 rfl (lv_at hl 0 rfl) ?_
  refine gB_held hC hB dX0_sell_15 ?_
  refine lv_iload_n hx hb dX0_sell_18 rfl (lv_at hl 1 rfl) ?_
  refine lB_row (r) hC hB rfl (by omega) dX0_sell_19 ?_
  refine lv_iload_n hx hb dX0_sell_20 rfl (lv_at hl 2 rfl) ?_
  refine lB_held (r) (t) hC hB (by omega) rfl (by omega) rfl dX0_sell_21 ?_
  refine lv_iload_n hx hb dX0_sell_22 rfl (lv_at hl 3 rfl) ?_
  refine lv_isub hx hb dX0_sell_23 ?_
  refine lv_bipush (v := -9) hx hb dX0_sell_24 (by decide) ?_
  refine lv_icmp_ge (tgt := 39) hx hb dX0_sell_26 (by decide) (fun c1 => ?_) (fun c1 => ?_)
  · exfalso; exact absurd c1 h1
  · exact thrIS (is := 85) hC hl9 hX hH (List.mem_of_getElem? (i := 7) rfl) hl.1 hxt hlocks (by decide) dX0_sell_29 dX0_sell_32 dX0_sell_33 dX0_sell_35 dX0_sell_38
set_option maxHeartbeats 4000000 in
set_option maxRecDepth 100000 in
theorem t_X0_buy_p (l : Launch) (hl9 : l.stackTraces = false) (D : va_G) (cI cQ : ClassId) (a : Nat → Nat) (S : bS) {T R : Nat} {r t k : Nat} (hI : BI S T R) (hr9 : r < R) (ht : t < T) (hk1 : 1 ≤ k) (hk9 : k ≤ 9) (h1 : S (7 + r) t + nI k ≤ 9) (h2 : ¬ bPr S R t * nI k ≤ S 5 r) : Th l yX0_buy cX0_buy 5 (some .int) ({ frames := 7, cells := 1, slots := 6, locals := 110 } : Room) (BW D cI cQ a S) [.ref (a 13), .int (nI r), .int (nI t), .int (nI k)] eIS := by
  refine Th.of (by decide) (Nat.le_of_ble_eq_true rfl) ?_
  intro p e s m args below meth c ls hC hlocks hxt hB hX hH hl
  have hx0 := hC.1
  have hx := hC.1
  have hb := hC.2.1
  obtain ⟨hT, hR, hT8, hR6⟩ := id hI
  have hl : lv_has ls 5 [(0, .ref (a 13)), (1, .int (nI r)), (2, .int (nI t)), (3, .int (nI k))] := hl
  refine lv_aload_n hx hb dX0_buy_0 rfl (lv_at hl 0 rfl) ?_
  refine lv_iload_n hx hb dX0_buy_1 rfl (lv_at hl 1 rfl) ?_
  refine kn_X0_requireTrader hC (c_X0_requireTrader l D cI cQ a S hI (r := r) (by omega)) hB rfl ⟨rfl, rfl⟩ ⟨Nat.le_of_ble_eq_true rfl, Nat.le_of_ble_eq_true rfl⟩ ⟨Nat.zero_le _, Nat.zero_le _⟩ hl.1 rfl (Nat.le_of_ble_eq_true rfl) dX0_buy_2 ?_
  refine lv_aload_n hx hb dX0_buy_5 rfl (lv_at hl 0 rfl) ?_
  refine lv_iload_n hx hb dX0_buy_6 rfl (lv_at hl 2 rfl) ?_
  refine kn_X0_requireTower hC (c_X0_requireTower l D cI cQ a S hI (t := t) (by omega)) hB rfl ⟨rfl, rfl⟩ ⟨Nat.le_of_ble_eq_true rfl, Nat.le_of_ble_eq_true rfl⟩ ⟨Nat.zero_le _, Nat.zero_le _⟩ hl.1 rfl (Nat.le_of_ble_eq_true rfl) dX0_buy_7 ?_
  refine lv_iload_n hx hb dX0_buy_10 rfl (lv_at hl 3 rfl) ?_
  refine kn_X0_requireTradable hC (c_X0_requireTradable l (k := k) (by omega) (by omega)) mov_T trivial rfl ⟨rfl, rfl⟩ ⟨Nat.le_of_ble_eq_true rfl, Nat.le_of_ble_eq_true rfl⟩ ⟨Nat.zero_le _, Nat.zero_le _⟩ hl.1 rfl (Nat.le_of_ble_eq_true rfl) dX0_buy_11 ?_
  refine lv_aload_n hx hb dX0_buy_14 rfl (lv_at hl 0 rfl) ?_
  refine lv_iload_n hx hb dX0_buy_15 rfl (lv_at hl 2 rfl) ?_
  refine k_X0_priceNow hC (c_X0_priceNow l D cI cQ a S hI (t := t) (by omega)) hB rfl ⟨rfl, rfl⟩ ⟨Nat.le_of_ble_eq_true rfl, Nat.le_of_ble_eq_true rfl⟩ ⟨Nat.zero_le _, Nat.zero_le _⟩ hl.1 rfl (Nat.le_of_ble_eq_true rfl) dX0_buy_16 ?_
  refine lv_iload_n hx hb dX0_buy_19 rfl (lv_at hl 3 rfl) ?_
  refine lv_imul hx hb dX0_buy_20 ?_
  refine lv_istore (lv' := [(4, .int ((bPr S R t) * (nI k))), (0, .ref (a 13)), (1, .int (nI r)), (2, .int (nI t)), (3, .int (nI k))]) hx hb dX0_buy_21 hl (by decide) rfl (fun ls hl => ?_)
  refine lv_aload_n hx hb dX0_buy_23 rfl (lv_at hl 1 rfl) ?_
  refine gB_held hC hB dX0_buy_24 ?_
  refine lv_iload_n hx hb dX0_buy_27 rfl (lv_at hl 2 rfl) ?_
  refine lB_row (r) hC hB rfl (by omega) dX0_buy_28 ?_
  refine lv_iload_n hx hb dX0_buy_29 rfl (lv_at hl 3 rfl) ?_
  refine lB_held (r) (t) hC hB (by omega) rfl (by omega) rfl dX0_buy_30 ?_
  refine lv_iload_n hx hb dX0_buy_31 rfl (lv_at hl 4 rfl) ?_
  refine lv_iadd hx hb dX0_buy_32 ?_
  refine lv_bipush (v := 9) hx hb dX0_buy_33 (by decide) ?_
  refine lv_icmp_le (tgt := 48) hx hb dX0_buy_35 (by decide) (fun c1 => ?_) (fun c1 => ?_)
  · refine lv_aload_n hx hb dX0_buy_48 rfl (lv_at hl 1 rfl) ?_
    refine gB_purse hC hB dX0_buy_49 ?_
    refine lv_iload_n hx hb dX0_buy_52 rfl (lv_at hl 2 rfl) ?_
    refine lB_purse (r) hC hB rfl (by omega) rfl dX0_buy_53 ?_
    refine lv_iload hx hb dX0_buy_54 (lv_at hl 0 rfl) ?_
    refine lv_icmp_ge (tgt := 69) hx hb dX0_buy_56 (by decide) (fun c2 => ?_) (fun c2 => ?_)
    · exfalso; exact h2 c2
    · exact thrIS (is := 83) hC hl9 hX hH (List.mem_of_getElem? (i := 6) rfl) hl.1 hxt hlocks (by decide) dX0_buy_59 dX0_buy_62 dX0_buy_63 dX0_buy_65 dX0_buy_68
  · exfalso; exact c1 h1
set_option maxHeartbeats 4000000 in
set_option maxRecDepth 100000 in
theorem t_X0_addTrader (l : Launch) (hl9 : l.stackTraces = false) (D : va_G) (cI cQ : ClassId) (a : Nat → Nat) (S : bS) {T R : Nat} (hI : BI S T R) (hlt : ¬ R < 6) : Th l yX0_addTrader cX0_addTrader 2 (some .int) ({ frames := 7, cells := 1, slots := 6, locals := 110 } : Room) (BW D cI cQ a S) [.ref (a 13)] eIS := by
  refine Th.of (by decide) (Nat.le_of_ble_eq_true rfl) ?_
  intro p e s m args below meth c ls hC hlocks hxt hB hX hH hl
  have hx0 := hC.1
  have hx := hC.1
  have hb := hC.2.1
  obtain ⟨hT, hR, hT8, hR6⟩ := id hI
  have hl : lv_has ls 2 [(0, .ref (a 13))] := hl
  refine lv_aload_n hx hb dX0_addTrader_0 rfl (lv_at hl 0 rfl) ?_
  refine gB_traderCount hC hB hR dX0_addTrader_1 ?_
  refine lv_bipush (v := 6) hx hb dX0_addTrader_4 (by decide) ?_
  refine jlt (i := R) (j := 6) (tgt := 19) hC dX0_addTrader_6 (by decide) rfl rfl (by omega) (by omega) (fun c1 => ?_) (fun c1 => ?_)
  · exfalso; omega
  · exact thrIS (is := 65) hC hl9 hX hH (List.mem_of_getElem? (i := 4) rfl) hl.1 hxt hlocks (by decide) dX0_addTrader_9 dX0_addTrader_12 dX0_addTrader_13 dX0_addTrader_15 dX0_addTrader_18
set_option maxHeartbeats 4000000 in
set_option maxRecDepth 100000 in
theorem t_X0_list_w (l : Launch) (hl9 : l.stackTraces = false) (D : va_G) (cI cQ : ClassId) (a : Nat → Nat) (S : bS) {T R : Nat} {x y z : Int32} (hI : BI S T R) (hbad : ¬ ∃ k : Nat, 1 ≤ k ∧ k ≤ 9 ∧ x = nI k) : Th l yX0_list cX0_list 6 (some .int) ({ frames := 7, cells := 1, slots := 6, locals := 110 } : Room) (BW D cI cQ a S) [.ref (a 13), .int (x), .int (y), .int (z)] eIA := by
  refine Th.of (by decide) (Nat.le_of_ble_eq_true rfl) ?_
  intro p e s m args below meth c ls hC hlocks hxt hB hX hH hl
  have hx0 := hC.1
  have hx := hC.1
  have hb := hC.2.1
  obtain ⟨hT, hR, hT8, hR6⟩ := id hI
  have hl : lv_has ls 6 [(0, .ref (a 13)), (1, .int (x)), (2, .int (y)), (3, .int (z))] := hl
  refine lv_iload_n hx hb dX0_list_0 rfl (lv_at hl 1 rfl) ?_
  refine lv_iconst (v := 1) hx hb dX0_list_1 (by decide) ?_
  refine lv_icmp_lt (tgt := 11) hx hb dX0_list_2 (by decide) (fun c1 => ?_) (fun c1 => ?_)
  · exact thrIA (is := 35) hC hl9 hX hH (List.mem_of_getElem? (i := 0) rfl) hl.1 hxt hlocks (by decide) dX0_list_11 dX0_list_14 dX0_list_15 dX0_list_17 dX0_list_20
  · refine lv_iload_n hx hb dX0_list_5 rfl (lv_at hl 1 rfl) ?_
    refine lv_bipush (v := 9) hx hb dX0_list_6 (by decide) ?_
    refine lv_icmp_le (tgt := 21) hx hb dX0_list_8 (by decide) (fun c2 => ?_) (fun c2 => ?_)
    · exfalso; exact bad_rng (lo := 1) (hi := 9) (by decide) (by decide) hbad c1 c2
    · exact thrIA (is := 35) hC hl9 hX hH (List.mem_of_getElem? (i := 0) rfl) hl.1 hxt hlocks (by decide) dX0_list_11 dX0_list_14 dX0_list_15 dX0_list_17 dX0_list_20
set_option maxHeartbeats 4000000 in
set_option maxRecDepth 100000 in
theorem t_X0_list_p (l : Launch) (hl9 : l.stackTraces = false) (D : va_G) (cI cQ : ClassId) (a : Nat → Nat) (S : bS) {T R : Nat} {w0 : Nat} {x y : Int32} (hI : BI S T R) (hw1 : 1 ≤ w0) (hw9 : w0 ≤ 9) (hbad : ¬ ∃ k : Nat, 2 ≤ k ∧ k ≤ 20 ∧ x = nI k) : Th l yX0_list cX0_list 6 (some .int) ({ frames := 7, cells := 1, slots := 6, locals := 110 } : Room) (BW D cI cQ a S) [.ref (a 13), .int (nI w0), .int (x), .int (y)] eIA := by
  refine Th.of (by decide) (Nat.le_of_ble_eq_true rfl) ?_
  intro p e s m args below meth c ls hC hlocks hxt hB hX hH hl
  have hx0 := hC.1
  have hx := hC.1
  have hb := hC.2.1
  obtain ⟨hT, hR, hT8, hR6⟩ := id hI
  have hl : lv_has ls 6 [(0, .ref (a 13)), (1, .int (nI w0)), (2, .int (x)), (3, .int (y))] := hl
  refine lv_iload_n hx hb dX0_list_0 rfl (lv_at hl 1 rfl) ?_
  refine lv_iconst (v := 1) hx hb dX0_list_1 (by decide) ?_
  refine jlt (i := w0) (j := 1) (tgt := 11) hC dX0_list_2 (by decide) rfl rfl (by omega) (by omega) (fun c1 => ?_) (fun c1 => ?_)
  · exfalso; omega
  · refine lv_iload_n hx hb dX0_list_5 rfl (lv_at hl 1 rfl) ?_
    refine lv_bipush (v := 9) hx hb dX0_list_6 (by decide) ?_
    refine jle (i := w0) (j := 9) (tgt := 21) hC dX0_list_8 (by decide) rfl rfl (by omega) (by omega) (fun c2 => ?_) (fun c2 => ?_)
    · refine lv_iload_n hx hb dX0_list_21 rfl (lv_at hl 2 rfl) ?_
      refine lv_iconst (v := 2) hx hb dX0_list_22 (by decide) ?_
      refine lv_icmp_lt (tgt := 32) hx hb dX0_list_23 (by decide) (fun c3 => ?_) (fun c3 => ?_)
      · exact thrIA (is := 40) hC hl9 hX hH (List.mem_of_getElem? (i := 1) rfl) hl.1 hxt hlocks (by decide) dX0_list_32 dX0_list_35 dX0_list_36 dX0_list_38 dX0_list_41
      · refine lv_iload_n hx hb dX0_list_26 rfl (lv_at hl 2 rfl) ?_
        refine lv_bipush (v := 20) hx hb dX0_list_27 (by decide) ?_
        refine lv_icmp_le (tgt := 42) hx hb dX0_list_29 (by decide) (fun c4 => ?_) (fun c4 => ?_)
        · exfalso; exact bad_rng (lo := 2) (hi := 20) (by decide) (by decide) hbad c3 c4
        · exact thrIA (is := 40) hC hl9 hX hH (List.mem_of_getElem? (i := 1) rfl) hl.1 hxt hlocks (by decide) dX0_list_32 dX0_list_35 dX0_list_36 dX0_list_38 dX0_list_41
    · exfalso; omega
set_option maxHeartbeats 4000000 in
set_option maxRecDepth 100000 in
theorem t_X0_list_b (l : Launch) (hl9 : l.stackTraces = false) (D : va_G) (cI cQ : ClassId) (a : Nat → Nat) (S : bS) {T R : Nat} {w0 p0 : Nat} {x : Int32} (hI : BI S T R) (hw1 : 1 ≤ w0) (hw9 : w0 ≤ 9) (hp2 : 2 ≤ p0) (hp20 : p0 ≤ 20) (hbad : ¬ ∃ t : Nat, t < p0 ∧ x = nI t) : Th l yX0_list cX0_list 6 (some .int) ({ frames := 7, cells := 1, slots := 6, locals := 110 } : Room) (BW D cI cQ a S) [.ref (a 13), .int (nI w0), .int (nI p0), .int (x)] eIA := by
  refine Th.of (by decide) (Nat.le_of_ble_eq_true rfl) ?_
  intro p e s m args below meth c ls hC hlocks hxt hB hX hH hl
  have hx0 := hC.1
  have hx := hC.1
  have hb := hC.2.1
  obtain ⟨hT, hR, hT8, hR6⟩ := id hI
  have hl : lv_has ls 6 [(0, .ref (a 13)), (1, .int (nI w0)), (2, .int (nI p0)), (3, .int (x))] := hl
  refine lv_iload_n hx hb dX0_list_0 rfl (lv_at hl 1 rfl) ?_
  refine lv_iconst (v := 1) hx hb dX0_list_1 (by decide) ?_
  refine jlt (i := w0) (j := 1) (tgt := 11) hC dX0_list_2 (by decide) rfl rfl (by omega) (by omega) (fun c1 => ?_) (fun c1 => ?_)
  · exfalso; omega
  · refine lv_iload_n hx hb dX0_list_5 rfl (lv_at hl 1 rfl) ?_
    refine lv_bipush (v := 9) hx hb dX0_list_6 (by decide) ?_
    refine jle (i := w0) (j := 9) (tgt := 21) hC dX0_list_8 (by decide) rfl rfl (by omega) (by omega) (fun c2 => ?_) (fun c2 => ?_)
    · refine lv_iload_n hx hb dX0_list_21 rfl (lv_at hl 2 rfl) ?_
      refine lv_iconst (v := 2) hx hb dX0_list_22 (by decide) ?_
      refine jlt (i := p0) (j := 2) (tgt := 32) hC dX0_list_23 (by decide) rfl rfl (by omega) (by omega) (fun c3 => ?_) (fun c3 => ?_)
      · exfalso; omega
      · refine lv_iload_n hx hb dX0_list_26 rfl (lv_at hl 2 rfl) ?_
        refine lv_bipush (v := 20) hx hb dX0_list_27 (by decide) ?_
        refine jle (i := p0) (j := 20) (tgt := 42) hC dX0_list_29 (by decide) rfl rfl (by omega) (by omega) (fun c4 => ?_) (fun c4 => ?_)
        · refine lv_iload_n hx hb dX0_list_42 rfl (lv_at hl 3 rfl) ?_
          refine lv_if_lt (tgt := 51) hx hb dX0_list_43 (by decide) (fun c5 => ?_) (fun c5 => ?_)
          · exact thrIA (is := 42) hC hl9 hX hH (List.mem_of_getElem? (i := 2) rfl) hl.1 hxt hlocks (by decide) dX0_list_51 dX0_list_54 dX0_list_55 dX0_list_57 dX0_list_60
          · refine lv_iload_n hx hb dX0_list_46 rfl (lv_at hl 3 rfl) ?_
            refine lv_iload_n hx hb dX0_list_47 rfl (lv_at hl 2 rfl) ?_
            refine lv_icmp_lt (tgt := 61) hx hb dX0_list_48 (by decide) (fun c6 => ?_) (fun c6 => ?_)
            · exfalso; exact bad_lt (by omega) hbad c5 c6
            · exact thrIA (is := 42) hC hl9 hX hH (List.mem_of_getElem? (i := 2) rfl) hl.1 hxt hlocks (by decide) dX0_list_51 dX0_list_54 dX0_list_55 dX0_list_57 dX0_list_60
        · exfalso; omega
    · exfalso; omega
set_option maxHeartbeats 4000000 in
set_option maxRecDepth 100000 in
theorem t_X0_list_8 (l : Launch) (hl9 : l.stackTraces = false) (D : va_G) (cI cQ : ClassId) (a : Nat → Nat) (S : bS) {T R : Nat} {w0 p0 b0 : Nat} (hI : BI S T R) (hT7 : ¬ T < 8) (hw1 : 1 ≤ w0) (hw9 : w0 ≤ 9) (hp2 : 2 ≤ p0) (hp20 : p0 ≤ 20) (hb0 : b0 < p0) : Th l yX0_list cX0_list 6 (some .int) ({ frames := 7, cells := 1, slots := 6, locals := 110 } : Room) (BW D cI cQ a S) [.ref (a 13), .int (nI w0), .int (nI p0), .int (nI b0)] eIS := by
  refine Th.of (by decide) (Nat.le_of_ble_eq_true rfl) ?_
  intro p e s m args below meth c ls hC hlocks hxt hB hX hH hl
  have hx0 := hC.1
  have hx := hC.1
  have hb := hC.2.1
  obtain ⟨hT, hR, hT8, hR6⟩ := id hI
  have hl : lv_has ls 6 [(0, .ref (a 13)), (1, .int (nI w0)), (2, .int (nI p0)), (3, .int (nI b0))] := hl
  refine lv_iload_n hx hb dX0_list_0 rfl (lv_at hl 1 rfl) ?_
  refine lv_iconst (v := 1) hx hb dX0_list_1 (by decide) ?_
  refine jlt (i := w0) (j := 1) (tgt := 11) hC dX0_list_2 (by decide) rfl rfl (by omega) (by omega) (fun c1 => ?_) (fun c1 => ?_)
  · exfalso; omega
  · refine lv_iload_n hx hb dX0_list_5 rfl (lv_at hl 1 rfl) ?_
    refine lv_bipush (v := 9) hx hb dX0_list_6 (by decide) ?_
    refine jle (i := w0) (j := 9) (tgt := 21) hC dX0_list_8 (by decide) rfl rfl (by omega) (by omega) (fun c2 => ?_) (fun c2 => ?_)
    · refine lv_iload_n hx hb dX0_list_21 rfl (lv_at hl 2 rfl) ?_
      refine lv_iconst (v := 2) hx hb dX0_list_22 (by decide) ?_
      refine jlt (i := p0) (j := 2) (tgt := 32) hC dX0_list_23 (by decide) rfl rfl (by omega) (by omega) (fun c3 => ?_) (fun c3 => ?_)
      · exfalso; omega
      · refine lv_iload_n hx hb dX0_list_26 rfl (lv_at hl 2 rfl) ?_
        refine lv_bipush (v := 20) hx hb dX0_list_27 (by decide) ?_
        refine jle (i := p0) (j := 20) (tgt := 42) hC dX0_list_29 (by decide) rfl rfl (by omega) (by omega) (fun c4 => ?_) (fun c4 => ?_)
        · refine lv_iload_n hx hb dX0_list_42 rfl (lv_at hl 3 rfl) ?_
          refine lv_if_lt (tgt := 51) hx hb dX0_list_43 (by decide) (fun c5 => ?_) (fun c5 => ?_)
          · exfalso; exact absurd c5 (nI_pos (by omega))
          · refine lv_iload_n hx hb dX0_list_46 rfl (lv_at hl 3 rfl) ?_
            refine lv_iload_n hx hb dX0_list_47 rfl (lv_at hl 2 rfl) ?_
            refine jlt (i := b0) (j := p0) (tgt := 61) hC dX0_list_48 (by decide) rfl rfl (by omega) (by omega) (fun c6 => ?_) (fun c6 => ?_)
            · refine lv_aload_n hx hb dX0_list_61 rfl (lv_at hl 0 rfl) ?_
              refine gB_towerCount hC hB hT dX0_list_62 ?_
              refine lv_bipush (v := 8) hx hb dX0_list_65 (by decide) ?_
              refine jlt (i := T) (j := 8) (tgt := 80) hC dX0_list_67 (by decide) rfl rfl (by omega) (by omega) (fun c7 => ?_) (fun c7 => ?_)
              · exfalso; omega
              · exact thrIS (is := 50) hC hl9 hX hH (List.mem_of_getElem? (i := 3) rfl) hl.1 hxt hlocks (by decide) dX0_list_70 dX0_list_73 dX0_list_74 dX0_list_76 dX0_list_79
            · exfalso; omega
        · exfalso; omega
    · exfalso; omega

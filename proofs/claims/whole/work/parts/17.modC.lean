theorem mBm_0 {g : Nat → Int32} {k : Nat} (h : nI k ≤ 0) : mBm g (k + 1) = (k, g k) := if_pos h
theorem mBm_1 {g : Nat → Int32} {k : Nat} (h : ¬ nI k ≤ 0) (c : (mBm g k).2 < g k) : mBm g (k + 1) = (k, g k) := by
  have e : mBm g (k + 1) = if nI k ≤ 0 then (k, g k) else if (mBm g k).2 < g k then (k, g k) else mBm g k := rfl
  rw [e, if_neg h, if_pos c]
theorem mBm_2 {g : Nat → Int32} {k : Nat} (h : ¬ nI k ≤ 0) (c : ¬ (mBm g k).2 < g k) : mBm g (k + 1) = mBm g k := by
  have e : mBm g (k + 1) = if nI k ≤ 0 then (k, g k) else if (mBm g k).2 < g k then (k, g k) else mBm g k := rfl
  rw [e, if_neg h, if_neg c]
set_option maxHeartbeats 4000000 in
set_option maxRecDepth 100000 in
theorem c_X1_second_ok (l : Launch) (D : va_G) (cI : ClassId) (b : Nat → Nat) (N : bS) {T R : Nat} (hI : MI N T R) : Wr l yX1_second cX1_second 1 (some .int) ({ frames := 1, cells := 0, slots := 0, locals := 21 } : Room) (MW D cI b N) (MW D cI b (up2 N 5 0 0)) (inM b) [.ref (b 5)] (some (.int (N 3 0))) 0 0 := by
  refine Wr.of (by decide) (Nat.le_of_ble_eq_true rfl) ?_
  intro p e s m args below meth c ls hC hr hlocks hB hS hl
  have hx := hC.1
  have hb := hC.2.1
  have hA : ∀ q, (inM b) q → (inM b) q := fun _ h => h
  obtain ⟨hT, hR, hT8, hR6⟩ := id hI
  have hl : lv_has ls 1 [(0, .ref (b 5))] := hl
  refine lv_aload_n hx hb dX1_second_0 rfl (lv_at hl 0 rfl) ?_
  refine lv_aload_n hx hb dX1_second_1 rfl (lv_at hl 0 rfl) ?_
  refine gM_now hC hB dX1_second_2 ?_
  refine lv_iconst (v := 0) hx hb dX1_second_5 (by decide) ?_
  refine lM_now (0) hC hB rfl (by omega) rfl dX1_second_6 ?_
  refine kw_X1_told hC (c_X1_told l D cI b N (N 3 0)) hB rfl ⟨rfl, rfl⟩ ⟨Nat.le_of_ble_eq_true rfl, Nat.le_of_ble_eq_true rfl⟩ ⟨Nat.le_of_ble_eq_true rfl, Nat.le_of_ble_eq_true rfl⟩ hS hA hl.1 rfl (Nat.le_of_ble_eq_true rfl) dX1_second_7 (fun H locs hB hS => ?_)
  exact wr_i hC hr hlocks mov_M (hB) hS dX1_second_10 (by rfl)
set_option maxHeartbeats 4000000 in
set_option maxRecDepth 100000 in
theorem c_X1_towers_ok (l : Launch) (D : va_G) (cI : ClassId) (b : Nat → Nat) (N : bS) {T R : Nat} (hI : MI N T R) : Wr l yX1_towers cX1_towers 1 (some .int) ({ frames := 1, cells := 0, slots := 0, locals := 21 } : Room) (MW D cI b N) (MW D cI b (up2 N 5 0 0)) (inM b) [.ref (b 5)] (some (.int (nI T))) 0 0 := by
  refine Wr.of (by decide) (Nat.le_of_ble_eq_true rfl) ?_
  intro p e s m args below meth c ls hC hr hlocks hB hS hl
  have hx := hC.1
  have hb := hC.2.1
  have hA : ∀ q, (inM b) q → (inM b) q := fun _ h => h
  obtain ⟨hT, hR, hT8, hR6⟩ := id hI
  have hl : lv_has ls 1 [(0, .ref (b 5))] := hl
  refine lv_aload_n hx hb dX1_towers_0 rfl (lv_at hl 0 rfl) ?_
  refine lv_aload_n hx hb dX1_towers_1 rfl (lv_at hl 0 rfl) ?_
  refine gM_towers hC hB hT dX1_towers_2 ?_
  refine kw_X1_told hC (c_X1_told l D cI b N (nI T)) hB rfl ⟨rfl, rfl⟩ ⟨Nat.le_of_ble_eq_true rfl, Nat.le_of_ble_eq_true rfl⟩ ⟨Nat.le_of_ble_eq_true rfl, Nat.le_of_ble_eq_true rfl⟩ hS hA hl.1 rfl (Nat.le_of_ble_eq_true rfl) dX1_towers_5 (fun H locs hB hS => ?_)
  exact wr_i hC hr hlocks mov_M (hB) hS dX1_towers_8 (by rfl)
set_option maxHeartbeats 4000000 in
set_option maxRecDepth 100000 in
theorem c_X1_dearest_ok (l : Launch) (D : va_G) (cI : ClassId) (b : Nat → Nat) (N : bS) {T R : Nat} (hI : MI N T R) : Wr l yX1_dearest cX1_dearest 1 (some .int) ({ frames := 5, cells := 0, slots := 0, locals := 112 } : Room) (MW D cI b N) (MW D cI b (up2 N 5 0 0)) (inM b) [.ref (b 5)] (some (.int (oI (mDe N T R)))) 0 0 := by
  refine Wr.of (by decide) (Nat.le_of_ble_eq_true rfl) ?_
  intro p e s m args below meth c ls hC hr hlocks hB hS hl
  have hx := hC.1
  have hb := hC.2.1
  have hA : ∀ q, (inM b) q → (inM b) q := fun _ h => h
  obtain ⟨hT, hR, hT8, hR6⟩ := id hI
  have hl : lv_has ls 1 [(0, .ref (b 5))] := hl
  refine lv_aload_n hx hb dX1_dearest_0 rfl (lv_at hl 0 rfl) ?_
  refine lv_aload_n hx hb dX1_dearest_1 rfl (lv_at hl 0 rfl) ?_
  refine k_X1_dear hC (c_X1_dear l D cI b N (hI)) hB rfl ⟨rfl, rfl⟩ ⟨Nat.le_of_ble_eq_true rfl, Nat.le_of_ble_eq_true rfl⟩ ⟨Nat.zero_le _, Nat.zero_le _⟩ hl.1 rfl (Nat.le_of_ble_eq_true rfl) dX1_dearest_2 ?_
  refine kw_X1_told hC (c_X1_told l D cI b N (oI (mDe N T R))) hB rfl ⟨rfl, rfl⟩ ⟨Nat.le_of_ble_eq_true rfl, Nat.le_of_ble_eq_true rfl⟩ ⟨Nat.le_of_ble_eq_true rfl, Nat.le_of_ble_eq_true rfl⟩ hS hA hl.1 rfl (Nat.le_of_ble_eq_true rfl) dX1_dearest_5 (fun H locs hB hS => ?_)
  exact wr_i hC hr hlocks mov_M (hB) hS dX1_dearest_8 (by rfl)
set_option maxHeartbeats 4000000 in
set_option maxRecDepth 100000 in
theorem c_X1_traders_ok (l : Launch) (D : va_G) (cI : ClassId) (b : Nat → Nat) (N : bS) {T R : Nat} (hI : MI N T R) : Wr l yX1_traders cX1_traders 1 (some .int) ({ frames := 1, cells := 0, slots := 0, locals := 21 } : Room) (MW D cI b N) (MW D cI b (up2 N 5 0 0)) (inM b) [.ref (b 5)] (some (.int (nI R))) 0 0 := by
  refine Wr.of (by decide) (Nat.le_of_ble_eq_true rfl) ?_
  intro p e s m args below meth c ls hC hr hlocks hB hS hl
  have hx := hC.1
  have hb := hC.2.1
  have hA : ∀ q, (inM b) q → (inM b) q := fun _ h => h
  obtain ⟨hT, hR, hT8, hR6⟩ := id hI
  have hl : lv_has ls 1 [(0, .ref (b 5))] := hl
  refine lv_aload_n hx hb dX1_traders_0 rfl (lv_at hl 0 rfl) ?_
  refine lv_aload_n hx hb dX1_traders_1 rfl (lv_at hl 0 rfl) ?_
  refine gM_traders hC hB hR dX1_traders_2 ?_
  refine kw_X1_told hC (c_X1_told l D cI b N (nI R)) hB rfl ⟨rfl, rfl⟩ ⟨Nat.le_of_ble_eq_true rfl, Nat.le_of_ble_eq_true rfl⟩ ⟨Nat.le_of_ble_eq_true rfl, Nat.le_of_ble_eq_true rfl⟩ hS hA hl.1 rfl (Nat.le_of_ble_eq_true rfl) dX1_traders_5 (fun H locs hB hS => ?_)
  exact wr_i hC hr hlocks mov_M (hB) hS dX1_traders_8 (by rfl)
set_option maxHeartbeats 4000000 in
set_option maxRecDepth 100000 in
theorem c_X1_richest_ok (l : Launch) (D : va_G) (cI : ClassId) (b : Nat → Nat) (N : bS) {T R : Nat} (hI : MI N T R) : Wr l yX1_richest cX1_richest 1 (some .int) ({ frames := 6, cells := 0, slots := 0, locals := 135 } : Room) (MW D cI b N) (MW D cI b (up2 N 5 0 0)) (inM b) [.ref (b 5)] (some (.int (oI (mRi N T R)))) 0 0 := by
  refine Wr.of (by decide) (Nat.le_of_ble_eq_true rfl) ?_
  intro p e s m args below meth c ls hC hr hlocks hB hS hl
  have hx := hC.1
  have hb := hC.2.1
  have hA : ∀ q, (inM b) q → (inM b) q := fun _ h => h
  obtain ⟨hT, hR, hT8, hR6⟩ := id hI
  have hl : lv_has ls 1 [(0, .ref (b 5))] := hl
  refine lv_aload_n hx hb dX1_richest_0 rfl (lv_at hl 0 rfl) ?_
  refine lv_aload_n hx hb dX1_richest_1 rfl (lv_at hl 0 rfl) ?_
  refine k_X1_rich hC (c_X1_rich l D cI b N (hI)) hB rfl ⟨rfl, rfl⟩ ⟨Nat.le_of_ble_eq_true rfl, Nat.le_of_ble_eq_true rfl⟩ ⟨Nat.zero_le _, Nat.zero_le _⟩ hl.1 rfl (Nat.le_of_ble_eq_true rfl) dX1_richest_2 ?_
  refine kw_X1_told hC (c_X1_told l D cI b N (oI (mRi N T R))) hB rfl ⟨rfl, rfl⟩ ⟨Nat.le_of_ble_eq_true rfl, Nat.le_of_ble_eq_true rfl⟩ ⟨Nat.le_of_ble_eq_true rfl, Nat.le_of_ble_eq_true rfl⟩ hS hA hl.1 rfl (Nat.le_of_ble_eq_true rfl) dX1_richest_5 (fun H locs hB hS => ?_)
  exact wr_i hC hr hlocks mov_M (hB) hS dX1_richest_8 (by rfl)
set_option maxHeartbeats 4000000 in
set_option maxRecDepth 100000 in
theorem c_X1_inDebt_ok (l : Launch) (D : va_G) (cI : ClassId) (b : Nat → Nat) (N : bS) {T R : Nat} (hI : MI N T R) : Wr l yX1_inDebt cX1_inDebt 1 (some .int) ({ frames := 1, cells := 0, slots := 0, locals := 22 } : Room) (MW D cI b N) (MW D cI b (up2 N 5 0 0)) (inM b) [.ref (b 5)] (some (.int (mOw N R))) 0 0 := by
  refine Wr.of (by decide) (Nat.le_of_ble_eq_true rfl) ?_
  intro p e s m args below meth c ls hC hr hlocks hB hS hl
  have hx := hC.1
  have hb := hC.2.1
  have hA : ∀ q, (inM b) q → (inM b) q := fun _ h => h
  obtain ⟨hT, hR, hT8, hR6⟩ := id hI
  have hl : lv_has ls 1 [(0, .ref (b 5))] := hl
  refine lv_aload_n hx hb dX1_inDebt_0 rfl (lv_at hl 0 rfl) ?_
  refine lv_aload_n hx hb dX1_inDebt_1 rfl (lv_at hl 0 rfl) ?_
  refine k_X1_owing hC (c_X1_owing l D cI b N (hI)) hB rfl ⟨rfl, rfl⟩ ⟨Nat.le_of_ble_eq_true rfl, Nat.le_of_ble_eq_true rfl⟩ ⟨Nat.zero_le _, Nat.zero_le _⟩ hl.1 rfl (Nat.le_of_ble_eq_true rfl) dX1_inDebt_2 ?_
  refine kw_X1_told hC (c_X1_told l D cI b N (mOw N R)) hB rfl ⟨rfl, rfl⟩ ⟨Nat.le_of_ble_eq_true rfl, Nat.le_of_ble_eq_true rfl⟩ ⟨Nat.le_of_ble_eq_true rfl, Nat.le_of_ble_eq_true rfl⟩ hS hA hl.1 rfl (Nat.le_of_ble_eq_true rfl) dX1_inDebt_5 (fun H locs hB hS => ?_)
  exact wr_i hC hr hlocks mov_M (hB) hS dX1_inDebt_8 (by rfl)
set_option maxHeartbeats 4000000 in
set_option maxRecDepth 100000 in
theorem c_X1_nextToStrike_ok (l : Launch) (D : va_G) (cI : ClassId) (b : Nat → Nat) (N : bS) {T R : Nat} {u : Nat → Nat} (hI : MI N T R) (hU : ∀ t, t < T → mU N t (u t)) (hP : mP N T) : Wr l yX1_nextToStrike cX1_nextToStrike 1 (some .int) ({ frames := 2, cells := 0, slots := 0, locals := 44 } : Room) (MW D cI b N) (MW D cI b (up2 N 5 0 0)) (inM b) [.ref (b 5)] (some (.int (oI (amN u T)))) 0 0 := by
  refine Wr.of (by decide) (Nat.le_of_ble_eq_true rfl) ?_
  intro p e s m args below meth c ls hC hr hlocks hB hS hl
  have hx := hC.1
  have hb := hC.2.1
  have hA : ∀ q, (inM b) q → (inM b) q := fun _ h => h
  obtain ⟨hT, hR, hT8, hR6⟩ := id hI
  have hl : lv_has ls 1 [(0, .ref (b 5))] := hl
  refine lv_aload_n hx hb dX1_nextToStrike_0 rfl (lv_at hl 0 rfl) ?_
  refine lv_aload_n hx hb dX1_nextToStrike_1 rfl (lv_at hl 0 rfl) ?_
  refine k_X1_next hC (c_X1_next l D cI b N (u := u) (hI) (hU) (hP)) hB rfl ⟨rfl, rfl⟩ ⟨Nat.le_of_ble_eq_true rfl, Nat.le_of_ble_eq_true rfl⟩ ⟨Nat.zero_le _, Nat.zero_le _⟩ hl.1 rfl (Nat.le_of_ble_eq_true rfl) dX1_nextToStrike_2 ?_
  refine kw_X1_told hC (c_X1_told l D cI b N (oI (amN u T))) hB rfl ⟨rfl, rfl⟩ ⟨Nat.le_of_ble_eq_true rfl, Nat.le_of_ble_eq_true rfl⟩ ⟨Nat.le_of_ble_eq_true rfl, Nat.le_of_ble_eq_true rfl⟩ hS hA hl.1 rfl (Nat.le_of_ble_eq_true rfl) dX1_nextToStrike_5 (fun H locs hB hS => ?_)
  exact wr_i hC hr hlocks mov_M (hB) hS dX1_nextToStrike_8 (by rfl)
set_option maxHeartbeats 4000000 in
set_option maxRecDepth 100000 in
theorem c_X1_bestToBuy_ok (l : Launch) (D : va_G) (cI : ClassId) (b : Nat → Nat) (N : bS) {T R : Nat} {u : Nat → Nat} (hI : MI N T R) (hU : ∀ t, t < T → mU N t (u t)) (hP : mP N T) : Wr l yX1_bestToBuy cX1_bestToBuy 1 (some .int) ({ frames := 5, cells := 0, slots := 0, locals := 114 } : Room) (MW D cI b N) (MW D cI b (up2 N 5 0 0)) (inM b) [.ref (b 5)] (some (.int (oI (mBu N T R u).1))) 0 0 := by
  refine Wr.of (by decide) (Nat.le_of_ble_eq_true rfl) ?_
  intro p e s m args below meth c ls hC hr hlocks hB hS hl
  have hx := hC.1
  have hb := hC.2.1
  have hA : ∀ q, (inM b) q → (inM b) q := fun _ h => h
  obtain ⟨hT, hR, hT8, hR6⟩ := id hI
  have hl : lv_has ls 1 [(0, .ref (b 5))] := hl
  refine lv_aload_n hx hb dX1_bestToBuy_0 rfl (lv_at hl 0 rfl) ?_
  refine lv_aload_n hx hb dX1_bestToBuy_1 rfl (lv_at hl 0 rfl) ?_
  refine k_X1_toBuy hC (c_X1_toBuy l D cI b N (u := u) (hI) (hU) (hP)) hB rfl ⟨rfl, rfl⟩ ⟨Nat.le_of_ble_eq_true rfl, Nat.le_of_ble_eq_true rfl⟩ ⟨Nat.zero_le _, Nat.zero_le _⟩ hl.1 rfl (Nat.le_of_ble_eq_true rfl) dX1_bestToBuy_2 ?_
  refine kw_X1_told hC (c_X1_told l D cI b N (oI (mBu N T R u).1)) hB rfl ⟨rfl, rfl⟩ ⟨Nat.le_of_ble_eq_true rfl, Nat.le_of_ble_eq_true rfl⟩ ⟨Nat.le_of_ble_eq_true rfl, Nat.le_of_ble_eq_true rfl⟩ hS hA hl.1 rfl (Nat.le_of_ble_eq_true rfl) dX1_bestToBuy_5 (fun H locs hB hS => ?_)
  exact wr_i hC hr hlocks mov_M (hB) hS dX1_bestToBuy_8 (by rfl)
set_option maxHeartbeats 4000000 in
set_option maxRecDepth 100000 in
theorem c_X1_silenceOf_ok (l : Launch) (D : va_G) (cI : ClassId) (b : Nat → Nat) (N : bS) {T R : Nat} {t : Nat} (hI : MI N T R) (ht : t < T) : Wr l yX1_silenceOf cX1_silenceOf 2 (some .int) ({ frames := 2, cells := 0, slots := 0, locals := 43 } : Room) (MW D cI b N) (MW D cI b (up2 N 5 0 0)) (inM b) [.ref (b 5), .int (nI t)] (some (.int (N 3 (1 + t)))) 0 0 := by
  refine Wr.of (by decide) (Nat.le_of_ble_eq_true rfl) ?_
  intro p e s m args below meth c ls hC hr hlocks hB hS hl
  have hx := hC.1
  have hb := hC.2.1
  have hA : ∀ q, (inM b) q → (inM b) q := fun _ h => h
  obtain ⟨hT, hR, hT8, hR6⟩ := id hI
  have hl : lv_has ls 2 [(0, .ref (b 5)), (1, .int (nI t))] := hl
  refine lv_aload_n hx hb dX1_silenceOf_0 rfl (lv_at hl 0 rfl) ?_
  refine lv_iconst (v := 0) hx hb dX1_silenceOf_1 (by decide) ?_
  refine pM_thrown hC hB hS hA dX1_silenceOf_2 (fun H locs hB hS => ?_)
  refine lv_aload_n hx hb dX1_silenceOf_5 rfl (lv_at hl 0 rfl) ?_
  refine lv_iload_n hx hb dX1_silenceOf_6 rfl (lv_at hl 1 rfl) ?_
  refine k_X1_isTower hC (c_X1_isTower_ok l D cI b (up2 N 5 0 0) (t := t) (MI_5 (hI)) (by omega)) hB rfl ⟨rfl, rfl⟩ ⟨Nat.le_of_ble_eq_true rfl, Nat.le_of_ble_eq_true rfl⟩ ⟨Nat.zero_le _, Nat.zero_le _⟩ hl.1 rfl (Nat.le_of_ble_eq_true rfl) dX1_silenceOf_7 ?_
  refine lv_if_eq (tgt := 24) hx hb dX1_silenceOf_10 (by decide) (fun c1 => ?_) (fun c1 => ?_)
  · exfalso; revert c1; decide
  · refine lv_aload_n hx hb dX1_silenceOf_13 rfl (lv_at hl 0 rfl) ?_
    refine gM_now hC hB dX1_silenceOf_14 ?_
    refine lv_iconst (v := 1) hx hb dX1_silenceOf_17 (by decide) ?_
    refine lv_iload_n hx hb dX1_silenceOf_18 rfl (lv_at hl 1 rfl) ?_
    refine xadd (v := nI (1 + t)) hC dX1_silenceOf_19 (nadd (i := 1) (j := t) rfl rfl) ?_
    refine lM_now (v := N 3 (1 + t)) (1 + t) hC hB rfl (by omega) (by rw [up2_ne _ _ (by omega)]) dX1_silenceOf_20 ?_
    refine lv_goto (tgt := 29) hx hb dX1_silenceOf_21 (by decide) ?_
    exact wr_i hC hr hlocks mov_M (hB) hS dX1_silenceOf_29 (by rfl)
set_option maxHeartbeats 4000000 in
set_option maxRecDepth 100000 in
theorem c_X1_dovesOn_ok (l : Launch) (D : va_G) (cI : ClassId) (b : Nat → Nat) (N : bS) {T R : Nat} {t : Nat} (hI : MI N T R) (ht : t < T) : Wr l yX1_dovesOn cX1_dovesOn 2 (some .int) ({ frames := 2, cells := 0, slots := 0, locals := 47 } : Room) (MW D cI b N) (MW D cI b (up2 N 5 0 0)) (inM b) [.ref (b 5), .int (nI t)] (some (.int (mDv N R t))) 0 0 := by
  refine Wr.of (by decide) (Nat.le_of_ble_eq_true rfl) ?_
  intro p e s m args below meth c ls hC hr hlocks hB hS hl
  have hx := hC.1
  have hb := hC.2.1
  have hA : ∀ q, (inM b) q → (inM b) q := fun _ h => h
  obtain ⟨hT, hR, hT8, hR6⟩ := id hI
  have hl : lv_has ls 2 [(0, .ref (b 5)), (1, .int (nI t))] := hl
  refine lv_aload_n hx hb dX1_dovesOn_0 rfl (lv_at hl 0 rfl) ?_
  refine lv_iconst (v := 0) hx hb dX1_dovesOn_1 (by decide) ?_
  refine pM_thrown hC hB hS hA dX1_dovesOn_2 (fun H locs hB hS => ?_)
  refine lv_aload_n hx hb dX1_dovesOn_5 rfl (lv_at hl 0 rfl) ?_
  refine lv_iload_n hx hb dX1_dovesOn_6 rfl (lv_at hl 1 rfl) ?_
  refine k_X1_isTower hC (c_X1_isTower_ok l D cI b (up2 N 5 0 0) (t := t) (MI_5 (hI)) (by omega)) hB rfl ⟨rfl, rfl⟩ ⟨Nat.le_of_ble_eq_true rfl, Nat.le_of_ble_eq_true rfl⟩ ⟨Nat.zero_le _, Nat.zero_le _⟩ hl.1 rfl (Nat.le_of_ble_eq_true rfl) dX1_dovesOn_7 ?_
  refine lv_if_eq (tgt := 21) hx hb dX1_dovesOn_10 (by decide) (fun c1 => ?_) (fun c1 => ?_)
  · exfalso; revert c1; decide
  · refine lv_aload_n hx hb dX1_dovesOn_13 rfl (lv_at hl 0 rfl) ?_
    refine lv_iload_n hx hb dX1_dovesOn_14 rfl (lv_at hl 1 rfl) ?_
    refine k_X1_doves hC (c_X1_doves l D cI b (up2 N 5 0 0) (t := t) (MI_5 (hI)) (by omega)) hB rfl ⟨rfl, rfl⟩ ⟨Nat.le_of_ble_eq_true rfl, Nat.le_of_ble_eq_true rfl⟩ ⟨Nat.zero_le _, Nat.zero_le _⟩ hl.1 rfl (Nat.le_of_ble_eq_true rfl) dX1_dovesOn_15 ?_
    refine lv_goto (tgt := 26) hx hb dX1_dovesOn_18 (by decide) ?_
    exact wr_i hC hr hlocks mov_M (hB) hS dX1_dovesOn_26 (by rfl)
set_option maxHeartbeats 4000000 in
set_option maxRecDepth 100000 in
theorem c_X1_priceOf_ok (l : Launch) (D : va_G) (cI : ClassId) (b : Nat → Nat) (N : bS) {T R : Nat} {t : Nat} (hI : MI N T R) (ht : t < T) : Wr l yX1_priceOf cX1_priceOf 2 (some .int) ({ frames := 4, cells := 0, slots := 0, locals := 90 } : Room) (MW D cI b N) (MW D cI b (up2 N 5 0 0)) (inM b) [.ref (b 5), .int (nI t)] (some (.int (mPr N R t))) 0 0 := by
  refine Wr.of (by decide) (Nat.le_of_ble_eq_true rfl) ?_
  intro p e s m args below meth c ls hC hr hlocks hB hS hl
  have hx := hC.1
  have hb := hC.2.1
  have hA : ∀ q, (inM b) q → (inM b) q := fun _ h => h
  obtain ⟨hT, hR, hT8, hR6⟩ := id hI
  have hl : lv_has ls 2 [(0, .ref (b 5)), (1, .int (nI t))] := hl
  refine lv_aload_n hx hb dX1_priceOf_0 rfl (lv_at hl 0 rfl) ?_
  refine lv_iconst (v := 0) hx hb dX1_priceOf_1 (by decide) ?_
  refine pM_thrown hC hB hS hA dX1_priceOf_2 (fun H locs hB hS => ?_)
  refine lv_aload_n hx hb dX1_priceOf_5 rfl (lv_at hl 0 rfl) ?_
  refine lv_iload_n hx hb dX1_priceOf_6 rfl (lv_at hl 1 rfl) ?_
  refine k_X1_isTower hC (c_X1_isTower_ok l D cI b (up2 N 5 0 0) (t := t) (MI_5 (hI)) (by omega)) hB rfl ⟨rfl, rfl⟩ ⟨Nat.le_of_ble_eq_true rfl, Nat.le_of_ble_eq_true rfl⟩ ⟨Nat.zero_le _, Nat.zero_le _⟩ hl.1 rfl (Nat.le_of_ble_eq_true rfl) dX1_priceOf_7 ?_
  refine lv_if_eq (tgt := 21) hx hb dX1_priceOf_10 (by decide) (fun c1 => ?_) (fun c1 => ?_)
  · exfalso; revert c1; decide
  · refine lv_aload_n hx hb dX1_priceOf_13 rfl (lv_at hl 0 rfl) ?_
    refine lv_iload_n hx hb dX1_priceOf_14 rfl (lv_at hl 1 rfl) ?_
    refine k_X1_price hC (c_X1_price l D cI b (up2 N 5 0 0) (t := t) (MI_5 (hI)) (by omega)) hB rfl ⟨rfl, rfl⟩ ⟨Nat.le_of_ble_eq_true rfl, Nat.le_of_ble_eq_true rfl⟩ ⟨Nat.zero_le _, Nat.zero_le _⟩ hl.1 rfl (Nat.le_of_ble_eq_true rfl) dX1_priceOf_15 ?_
    refine lv_goto (tgt := 26) hx hb dX1_priceOf_18 (by decide) ?_
    exact wr_i hC hr hlocks mov_M (hB) hS dX1_priceOf_26 (by rfl)
set_option maxHeartbeats 4000000 in
set_option maxRecDepth 100000 in
theorem c_X1_strokesOf_ok (l : Launch) (D : va_G) (cI : ClassId) (b : Nat → Nat) (N : bS) {T R : Nat} {t : Nat} (hI : MI N T R) (ht : t < T) : Wr l yX1_strokesOf cX1_strokesOf 2 (some .int) ({ frames := 2, cells := 0, slots := 0, locals := 43 } : Room) (MW D cI b N) (MW D cI b (up2 N 5 0 0)) (inM b) [.ref (b 5), .int (nI t)] (some (.int (N 3 (9 + t)))) 0 0 := by
  refine Wr.of (by decide) (Nat.le_of_ble_eq_true rfl) ?_
  intro p e s m args below meth c ls hC hr hlocks hB hS hl
  have hx := hC.1
  have hb := hC.2.1
  have hA : ∀ q, (inM b) q → (inM b) q := fun _ h => h
  obtain ⟨hT, hR, hT8, hR6⟩ := id hI
  have hl : lv_has ls 2 [(0, .ref (b 5)), (1, .int (nI t))] := hl
  refine lv_aload_n hx hb dX1_strokesOf_0 rfl (lv_at hl 0 rfl) ?_
  refine lv_iconst (v := 0) hx hb dX1_strokesOf_1 (by decide) ?_
  refine pM_thrown hC hB hS hA dX1_strokesOf_2 (fun H locs hB hS => ?_)
  refine lv_aload_n hx hb dX1_strokesOf_5 rfl (lv_at hl 0 rfl) ?_
  refine lv_iload_n hx hb dX1_strokesOf_6 rfl (lv_at hl 1 rfl) ?_
  refine k_X1_isTower hC (c_X1_isTower_ok l D cI b (up2 N 5 0 0) (t := t) (MI_5 (hI)) (by omega)) hB rfl ⟨rfl, rfl⟩ ⟨Nat.le_of_ble_eq_true rfl, Nat.le_of_ble_eq_true rfl⟩ ⟨Nat.zero_le _, Nat.zero_le _⟩ hl.1 rfl (Nat.le_of_ble_eq_true rfl) dX1_strokesOf_7 ?_
  refine lv_if_eq (tgt := 25) hx hb dX1_strokesOf_10 (by decide) (fun c1 => ?_) (fun c1 => ?_)
  · exfalso; revert c1; decide
  · refine lv_aload_n hx hb dX1_strokesOf_13 rfl (lv_at hl 0 rfl) ?_
    refine gM_now hC hB dX1_strokesOf_14 ?_
    refine lv_bipush (v := 9) hx hb dX1_strokesOf_17 (by decide) ?_
    refine lv_iload_n hx hb dX1_strokesOf_19 rfl (lv_at hl 1 rfl) ?_
    refine xadd (v := nI (9 + t)) hC dX1_strokesOf_20 (nadd (i := 9) (j := t) rfl rfl) ?_
    refine lM_now (v := N 3 (9 + t)) (9 + t) hC hB rfl (by omega) (by rw [up2_ne _ _ (by omega)]) dX1_strokesOf_21 ?_
    refine lv_goto (tgt := 30) hx hb dX1_strokesOf_22 (by decide) ?_
    exact wr_i hC hr hlocks mov_M (hB) hS dX1_strokesOf_30 (by rfl)
set_option maxHeartbeats 4000000 in
set_option maxRecDepth 100000 in
theorem c_X1_openSeconds_ok (l : Launch) (D : va_G) (cI : ClassId) (b : Nat → Nat) (N : bS) {T R : Nat} {t : Nat} (hI : MI N T R) (ht : t < T) : Wr l yX1_openSeconds cX1_openSeconds 2 (some .int) ({ frames := 2, cells := 0, slots := 0, locals := 44 } : Room) (MW D cI b N) (MW D cI b (up2 N 5 0 0)) (inM b) [.ref (b 5), .int (nI t)] (some (.int (mOp N R t))) 0 0 := by
  refine Wr.of (by decide) (Nat.le_of_ble_eq_true rfl) ?_
  intro p e s m args below meth c ls hC hr hlocks hB hS hl
  have hx := hC.1
  have hb := hC.2.1
  have hA : ∀ q, (inM b) q → (inM b) q := fun _ h => h
  obtain ⟨hT, hR, hT8, hR6⟩ := id hI
  have hl : lv_has ls 2 [(0, .ref (b 5)), (1, .int (nI t))] := hl
  refine lv_aload_n hx hb dX1_openSeconds_0 rfl (lv_at hl 0 rfl) ?_
  refine lv_iconst (v := 0) hx hb dX1_openSeconds_1 (by decide) ?_
  refine pM_thrown hC hB hS hA dX1_openSeconds_2 (fun H locs hB hS => ?_)
  refine lv_aload_n hx hb dX1_openSeconds_5 rfl (lv_at hl 0 rfl) ?_
  refine lv_iload_n hx hb dX1_openSeconds_6 rfl (lv_at hl 1 rfl) ?_
  refine k_X1_isTower hC (c_X1_isTower_ok l D cI b (up2 N 5 0 0) (t := t) (MI_5 (hI)) (by omega)) hB rfl ⟨rfl, rfl⟩ ⟨Nat.le_of_ble_eq_true rfl, Nat.le_of_ble_eq_true rfl⟩ ⟨Nat.zero_le _, Nat.zero_le _⟩ hl.1 rfl (Nat.le_of_ble_eq_true rfl) dX1_openSeconds_7 ?_
  refine lv_if_eq (tgt := 21) hx hb dX1_openSeconds_10 (by decide) (fun c1 => ?_) (fun c1 => ?_)
  · exfalso; revert c1; decide
  · refine lv_aload_n hx hb dX1_openSeconds_13 rfl (lv_at hl 0 rfl) ?_
    refine lv_iload_n hx hb dX1_openSeconds_14 rfl (lv_at hl 1 rfl) ?_
    refine k_X1_open hC (c_X1_open l D cI b (up2 N 5 0 0) (t := t) (MI_5 (hI)) (by omega)) hB rfl ⟨rfl, rfl⟩ ⟨Nat.le_of_ble_eq_true rfl, Nat.le_of_ble_eq_true rfl⟩ ⟨Nat.zero_le _, Nat.zero_le _⟩ hl.1 rfl (Nat.le_of_ble_eq_true rfl) dX1_openSeconds_15 ?_
    refine lv_goto (tgt := 26) hx hb dX1_openSeconds_18 (by decide) ?_
    exact wr_i hC hr hlocks mov_M (hB) hS dX1_openSeconds_26 (by rfl)
set_option maxHeartbeats 4000000 in
set_option maxRecDepth 100000 in
theorem c_X1_secondsUntilStroke_ok (l : Launch) (D : va_G) (cI : ClassId) (b : Nat → Nat) (N : bS) {T R : Nat} {u : Nat → Nat} {t : Nat} (hI : MI N T R) (ht : t < T) (hU : ∀ t, t < T → mU N t (u t)) (hP : mP N T) : Wr l yX1_secondsUntilStroke cX1_secondsUntilStroke 2 (some .int) ({ frames := 2, cells := 0, slots := 0, locals := 43 } : Room) (MW D cI b N) (MW D cI b (up2 N 5 0 0)) (inM b) [.ref (b 5), .int (nI t)] (some (.int (nI (u t)))) 0 0 := by
  refine Wr.of (by decide) (Nat.le_of_ble_eq_true rfl) ?_
  intro p e s m args below meth c ls hC hr hlocks hB hS hl
  have hx := hC.1
  have hb := hC.2.1
  have hA : ∀ q, (inM b) q → (inM b) q := fun _ h => h
  obtain ⟨hT, hR, hT8, hR6⟩ := id hI
  have hl : lv_has ls 2 [(0, .ref (b 5)), (1, .int (nI t))] := hl
  refine lv_aload_n hx hb dX1_secondsUntilStroke_0 rfl (lv_at hl 0 rfl) ?_
  refine lv_iconst (v := 0) hx hb dX1_secondsUntilStroke_1 (by decide) ?_
  refine pM_thrown hC hB hS hA dX1_secondsUntilStroke_2 (fun H locs hB hS => ?_)
  refine lv_aload_n hx hb dX1_secondsUntilStroke_5 rfl (lv_at hl 0 rfl) ?_
  refine lv_iload_n hx hb dX1_secondsUntilStroke_6 rfl (lv_at hl 1 rfl) ?_
  refine k_X1_isTower hC (c_X1_isTower_ok l D cI b (up2 N 5 0 0) (t := t) (MI_5 (hI)) (by omega)) hB rfl ⟨rfl, rfl⟩ ⟨Nat.le_of_ble_eq_true rfl, Nat.le_of_ble_eq_true rfl⟩ ⟨Nat.zero_le _, Nat.zero_le _⟩ hl.1 rfl (Nat.le_of_ble_eq_true rfl) dX1_secondsUntilStroke_7 ?_
  refine lv_if_eq (tgt := 21) hx hb dX1_secondsUntilStroke_10 (by decide) (fun c1 => ?_) (fun c1 => ?_)
  · exfalso; revert c1; decide
  · refine lv_aload_n hx hb dX1_secondsUntilStroke_13 rfl (lv_at hl 0 rfl) ?_
    refine lv_iload_n hx hb dX1_secondsUntilStroke_14 rfl (lv_at hl 1 rfl) ?_
    refine k_X1_until hC (c_X1_until l D cI b (up2 N 5 0 0) (t := t) (MI_5 (hI)) (by omega) ((mU_5 (hU)) _ (by omega)) (mP_5 (hP))) hB rfl ⟨rfl, rfl⟩ ⟨Nat.le_of_ble_eq_true rfl, Nat.le_of_ble_eq_true rfl⟩ ⟨Nat.zero_le _, Nat.zero_le _⟩ hl.1 rfl (Nat.le_of_ble_eq_true rfl) dX1_secondsUntilStroke_15 ?_
    refine lv_goto (tgt := 26) hx hb dX1_secondsUntilStroke_18 (by decide) ?_
    exact wr_i hC hr hlocks mov_M (hB) hS dX1_secondsUntilStroke_26 (by rfl)
set_option maxHeartbeats 4000000 in
set_option maxRecDepth 100000 in
theorem c_X1_closingPrice_ok (l : Launch) (D : va_G) (cI : ClassId) (b : Nat → Nat) (N : bS) {T R : Nat} {u : Nat → Nat} {t : Nat} (hI : MI N T R) (ht : t < T) (hU : ∀ t, t < T → mU N t (u t)) (hP : mP N T) : Wr l yX1_closingPrice cX1_closingPrice 2 (some .int) ({ frames := 4, cells := 0, slots := 0, locals := 90 } : Room) (MW D cI b N) (MW D cI b (up2 N 5 0 0)) (inM b) [.ref (b 5), .int (nI t)] (some (.int (mCl N R u t))) 0 0 := by
  refine Wr.of (by decide) (Nat.le_of_ble_eq_true rfl) ?_
  intro p e s m args below meth c ls hC hr hlocks hB hS hl
  have hx := hC.1
  have hb := hC.2.1
  have hA : ∀ q, (inM b) q → (inM b) q := fun _ h => h
  obtain ⟨hT, hR, hT8, hR6⟩ := id hI
  have hl : lv_has ls 2 [(0, .ref (b 5)), (1, .int (nI t))] := hl
  refine lv_aload_n hx hb dX1_closingPrice_0 rfl (lv_at hl 0 rfl) ?_
  refine lv_iconst (v := 0) hx hb dX1_closingPrice_1 (by decide) ?_
  refine pM_thrown hC hB hS hA dX1_closingPrice_2 (fun H locs hB hS => ?_)
  refine lv_aload_n hx hb dX1_closingPrice_5 rfl (lv_at hl 0 rfl) ?_
  refine lv_iload_n hx hb dX1_closingPrice_6 rfl (lv_at hl 1 rfl) ?_
  refine k_X1_isTower hC (c_X1_isTower_ok l D cI b (up2 N 5 0 0) (t := t) (MI_5 (hI)) (by omega)) hB rfl ⟨rfl, rfl⟩ ⟨Nat.le_of_ble_eq_true rfl, Nat.le_of_ble_eq_true rfl⟩ ⟨Nat.zero_le _, Nat.zero_le _⟩ hl.1 rfl (Nat.le_of_ble_eq_true rfl) dX1_closingPrice_7 ?_
  refine lv_if_eq (tgt := 21) hx hb dX1_closingPrice_10 (by decide) (fun c1 => ?_) (fun c1 => ?_)
  · exfalso; revert c1; decide
  · refine lv_aload_n hx hb dX1_closingPrice_13 rfl (lv_at hl 0 rfl) ?_
    refine lv_iload_n hx hb dX1_closingPrice_14 rfl (lv_at hl 1 rfl) ?_
    refine k_X1_closing hC (c_X1_closing l D cI b (up2 N 5 0 0) (u := u) (t := t) (MI_5 (hI)) (by omega) (mU_5 (hU)) (mP_5 (hP))) hB rfl ⟨rfl, rfl⟩ ⟨Nat.le_of_ble_eq_true rfl, Nat.le_of_ble_eq_true rfl⟩ ⟨Nat.zero_le _, Nat.zero_le _⟩ hl.1 rfl (Nat.le_of_ble_eq_true rfl) dX1_closingPrice_15 ?_
    refine lv_goto (tgt := 26) hx hb dX1_closingPrice_18 (by decide) ?_
    exact wr_i hC hr hlocks mov_M (hB) hS dX1_closingPrice_26 (by rfl)
set_option maxHeartbeats 4000000 in
set_option maxRecDepth 100000 in
theorem c_X1_silenceOf_f (l : Launch) (D : va_G) (cI : ClassId) (b : Nat → Nat) (N : bS) {T R : Nat} (x : Int32) (hI : MI N T R) (hx0 : isI x 0 (nI T - 1) = 0) : Wr l yX1_silenceOf cX1_silenceOf 2 (some .int) ({ frames := 2, cells := 0, slots := 0, locals := 43 } : Room) (MW D cI b N) (MW D cI b (up2 (up2 N 5 0 0) 5 0 1)) (inM b) [.ref (b 5), .int (x)] (some (.int (0))) 0 0 := by
  refine Wr.of (by decide) (Nat.le_of_ble_eq_true rfl) ?_
  intro p e s m args below meth c ls hC hr hlocks hB hS hl
  have hx := hC.1
  have hb := hC.2.1
  have hA : ∀ q, (inM b) q → (inM b) q := fun _ h => h
  obtain ⟨hT, hR, hT8, hR6⟩ := id hI
  have hl : lv_has ls 2 [(0, .ref (b 5)), (1, .int (x))] := hl
  refine lv_aload_n hx hb dX1_silenceOf_0 rfl (lv_at hl 0 rfl) ?_
  refine lv_iconst (v := 0) hx hb dX1_silenceOf_1 (by decide) ?_
  refine pM_thrown hC hB hS hA dX1_silenceOf_2 (fun H locs hB hS => ?_)
  refine lv_aload_n hx hb dX1_silenceOf_5 rfl (lv_at hl 0 rfl) ?_
  refine lv_iload_n hx hb dX1_silenceOf_6 rfl (lv_at hl 1 rfl) ?_
  refine k_X1_isTower hC (c_X1_isTower_no l D cI b (up2 N 5 0 0) (x) (MI_5 (hI)) hx0) hB rfl ⟨rfl, rfl⟩ ⟨Nat.le_of_ble_eq_true rfl, Nat.le_of_ble_eq_true rfl⟩ ⟨Nat.zero_le _, Nat.zero_le _⟩ hl.1 rfl (Nat.le_of_ble_eq_true rfl) dX1_silenceOf_7 ?_
  refine lv_if_eq (tgt := 24) hx hb dX1_silenceOf_10 (by decide) (fun c1 => ?_) (fun c1 => ?_)
  · refine lv_aload_n hx hb dX1_silenceOf_24 rfl (lv_at hl 0 rfl) ?_
    refine lv_iconst (v := 1) hx hb dX1_silenceOf_25 (by decide) ?_
    refine kw_X1_fail hC (c_X1_fail l D cI b (up2 N 5 0 0) (1)) hB rfl ⟨rfl, rfl⟩ ⟨Nat.le_of_ble_eq_true rfl, Nat.le_of_ble_eq_true rfl⟩ ⟨Nat.le_of_ble_eq_true rfl, Nat.le_of_ble_eq_true rfl⟩ hS hA hl.1 rfl (Nat.le_of_ble_eq_true rfl) dX1_silenceOf_26 (fun H locs hB hS => ?_)
    exact wr_i hC hr hlocks mov_M (hB) hS dX1_silenceOf_29 (by rfl)
  · exfalso; revert c1; decide
set_option maxHeartbeats 4000000 in
set_option maxRecDepth 100000 in
theorem c_X1_dovesOn_f (l : Launch) (D : va_G) (cI : ClassId) (b : Nat → Nat) (N : bS) {T R : Nat} (x : Int32) (hI : MI N T R) (hx0 : isI x 0 (nI T - 1) = 0) : Wr l yX1_dovesOn cX1_dovesOn 2 (some .int) ({ frames := 2, cells := 0, slots := 0, locals := 47 } : Room) (MW D cI b N) (MW D cI b (up2 (up2 N 5 0 0) 5 0 1)) (inM b) [.ref (b 5), .int (x)] (some (.int (0))) 0 0 := by
  refine Wr.of (by decide) (Nat.le_of_ble_eq_true rfl) ?_
  intro p e s m args below meth c ls hC hr hlocks hB hS hl
  have hx := hC.1
  have hb := hC.2.1
  have hA : ∀ q, (inM b) q → (inM b) q := fun _ h => h
  obtain ⟨hT, hR, hT8, hR6⟩ := id hI
  have hl : lv_has ls 2 [(0, .ref (b 5)), (1, .int (x))] := hl
  refine lv_aload_n hx hb dX1_dovesOn_0 rfl (lv_at hl 0 rfl) ?_
  refine lv_iconst (v := 0) hx hb dX1_dovesOn_1 (by decide) ?_
  refine pM_thrown hC hB hS hA dX1_dovesOn_2 (fun H locs hB hS => ?_)
  refine lv_aload_n hx hb dX1_dovesOn_5 rfl (lv_at hl 0 rfl) ?_
  refine lv_iload_n hx hb dX1_dovesOn_6 rfl (lv_at hl 1 rfl) ?_
  refine k_X1_isTower hC (c_X1_isTower_no l D cI b (up2 N 5 0 0) (x) (MI_5 (hI)) hx0) hB rfl ⟨rfl, rfl⟩ ⟨Nat.le_of_ble_eq_true rfl, Nat.le_of_ble_eq_true rfl⟩ ⟨Nat.zero_le _, Nat.zero_le _⟩ hl.1 rfl (Nat.le_of_ble_eq_true rfl) dX1_dovesOn_7 ?_
  refine lv_if_eq (tgt := 21) hx hb dX1_dovesOn_10 (by decide) (fun c1 => ?_) (fun c1 => ?_)
  · refine lv_aload_n hx hb dX1_dovesOn_21 rfl (lv_at hl 0 rfl) ?_
    refine lv_iconst (v := 1) hx hb dX1_dovesOn_22 (by decide) ?_
    refine kw_X1_fail hC (c_X1_fail l D cI b (up2 N 5 0 0) (1)) hB rfl ⟨rfl, rfl⟩ ⟨Nat.le_of_ble_eq_true rfl, Nat.le_of_ble_eq_true rfl⟩ ⟨Nat.le_of_ble_eq_true rfl, Nat.le_of_ble_eq_true rfl⟩ hS hA hl.1 rfl (Nat.le_of_ble_eq_true rfl) dX1_dovesOn_23 (fun H locs hB hS => ?_)
    exact wr_i hC hr hlocks mov_M (hB) hS dX1_dovesOn_26 (by rfl)
  · exfalso; revert c1; decide
set_option maxHeartbeats 4000000 in
set_option maxRecDepth 100000 in
theorem c_X1_priceOf_f (l : Launch) (D : va_G) (cI : ClassId) (b : Nat → Nat) (N : bS) {T R : Nat} (x : Int32) (hI : MI N T R) (hx0 : isI x 0 (nI T - 1) = 0) : Wr l yX1_priceOf cX1_priceOf 2 (some .int) ({ frames := 4, cells := 0, slots := 0, locals := 90 } : Room) (MW D cI b N) (MW D cI b (up2 (up2 N 5 0 0) 5 0 1)) (inM b) [.ref (b 5), .int (x)] (some (.int (0))) 0 0 := by
  refine Wr.of (by decide) (Nat.le_of_ble_eq_true rfl) ?_
  intro p e s m args below meth c ls hC hr hlocks hB hS hl
  have hx := hC.1
  have hb := hC.2.1
  have hA : ∀ q, (inM b) q → (inM b) q := fun _ h => h
  obtain ⟨hT, hR, hT8, hR6⟩ := id hI
  have hl : lv_has ls 2 [(0, .ref (b 5)), (1, .int (x))] := hl
  refine lv_aload_n hx hb dX1_priceOf_0 rfl (lv_at hl 0 rfl) ?_
  refine lv_iconst (v := 0) hx hb dX1_priceOf_1 (by decide) ?_
  refine pM_thrown hC hB hS hA dX1_priceOf_2 (fun H locs hB hS => ?_)
  refine lv_aload_n hx hb dX1_priceOf_5 rfl (lv_at hl 0 rfl) ?_
  refine lv_iload_n hx hb dX1_priceOf_6 rfl (lv_at hl 1 rfl) ?_
  refine k_X1_isTower hC (c_X1_isTower_no l D cI b (up2 N 5 0 0) (x) (MI_5 (hI)) hx0) hB rfl ⟨rfl, rfl⟩ ⟨Nat.le_of_ble_eq_true rfl, Nat.le_of_ble_eq_true rfl⟩ ⟨Nat.zero_le _, Nat.zero_le _⟩ hl.1 rfl (Nat.le_of_ble_eq_true rfl) dX1_priceOf_7 ?_
  refine lv_if_eq (tgt := 21) hx hb dX1_priceOf_10 (by decide) (fun c1 => ?_) (fun c1 => ?_)
  · refine lv_aload_n hx hb dX1_priceOf_21 rfl (lv_at hl 0 rfl) ?_
    refine lv_iconst (v := 1) hx hb dX1_priceOf_22 (by decide) ?_
    refine kw_X1_fail hC (c_X1_fail l D cI b (up2 N 5 0 0) (1)) hB rfl ⟨rfl, rfl⟩ ⟨Nat.le_of_ble_eq_true rfl, Nat.le_of_ble_eq_true rfl⟩ ⟨Nat.le_of_ble_eq_true rfl, Nat.le_of_ble_eq_true rfl⟩ hS hA hl.1 rfl (Nat.le_of_ble_eq_true rfl) dX1_priceOf_23 (fun H locs hB hS => ?_)
    exact wr_i hC hr hlocks mov_M (hB) hS dX1_priceOf_26 (by rfl)
  · exfalso; revert c1; decide
set_option maxHeartbeats 4000000 in
set_option maxRecDepth 100000 in
theorem c_X1_strokesOf_f (l : Launch) (D : va_G) (cI : ClassId) (b : Nat → Nat) (N : bS) {T R : Nat} (x : Int32) (hI : MI N T R) (hx0 : isI x 0 (nI T - 1) = 0) : Wr l yX1_strokesOf cX1_strokesOf 2 (some .int) ({ frames := 2, cells := 0, slots := 0, locals := 43 } : Room) (MW D cI b N) (MW D cI b (up2 (up2 N 5 0 0) 5 0 1)) (inM b) [.ref (b 5), .int (x)] (some (.int (0))) 0 0 := by
  refine Wr.of (by decide) (Nat.le_of_ble_eq_true rfl) ?_
  intro p e s m args below meth c ls hC hr hlocks hB hS hl
  have hx := hC.1
  have hb := hC.2.1
  have hA : ∀ q, (inM b) q → (inM b) q := fun _ h => h
  obtain ⟨hT, hR, hT8, hR6⟩ := id hI
  have hl : lv_has ls 2 [(0, .ref (b 5)), (1, .int (x))] := hl
  refine lv_aload_n hx hb dX1_strokesOf_0 rfl (lv_at hl 0 rfl) ?_
  refine lv_iconst (v := 0) hx hb dX1_strokesOf_1 (by decide) ?_
  refine pM_thrown hC hB hS hA dX1_strokesOf_2 (fun H locs hB hS => ?_)
  refine lv_aload_n hx hb dX1_strokesOf_5 rfl (lv_at hl 0 rfl) ?_
  refine lv_iload_n hx hb dX1_strokesOf_6 rfl (lv_at hl 1 rfl) ?_
  refine k_X1_isTower hC (c_X1_isTower_no l D cI b (up2 N 5 0 0) (x) (MI_5 (hI)) hx0) hB rfl ⟨rfl, rfl⟩ ⟨Nat.le_of_ble_eq_true rfl, Nat.le_of_ble_eq_true rfl⟩ ⟨Nat.zero_le _, Nat.zero_le _⟩ hl.1 rfl (Nat.le_of_ble_eq_true rfl) dX1_strokesOf_7 ?_
  refine lv_if_eq (tgt := 25) hx hb dX1_strokesOf_10 (by decide) (fun c1 => ?_) (fun c1 => ?_)
  · refine lv_aload_n hx hb dX1_strokesOf_25 rfl (lv_at hl 0 rfl) ?_
    refine lv_iconst (v := 1) hx hb dX1_strokesOf_26 (by decide) ?_
    refine kw_X1_fail hC (c_X1_fail l D cI b (up2 N 5 0 0) (1)) hB rfl ⟨rfl, rfl⟩ ⟨Nat.le_of_ble_eq_true rfl, Nat.le_of_ble_eq_true rfl⟩ ⟨Nat.le_of_ble_eq_true rfl, Nat.le_of_ble_eq_true rfl⟩ hS hA hl.1 rfl (Nat.le_of_ble_eq_true rfl) dX1_strokesOf_27 (fun H locs hB hS => ?_)
    exact wr_i hC hr hlocks mov_M (hB) hS dX1_strokesOf_30 (by rfl)
  · exfalso; revert c1; decide
set_option maxHeartbeats 4000000 in
set_option maxRecDepth 100000 in
theorem c_X1_openSeconds_f (l : Launch) (D : va_G) (cI : ClassId) (b : Nat → Nat) (N : bS) {T R : Nat} (x : Int32) (hI : MI N T R) (hx0 : isI x 0 (nI T - 1) = 0) : Wr l yX1_openSeconds cX1_openSeconds 2 (some .int) ({ frames := 2, cells := 0, slots := 0, locals := 44 } : Room) (MW D cI b N) (MW D cI b (up2 (up2 N 5 0 0) 5 0 1)) (inM b) [.ref (b 5), .int (x)] (some (.int (0))) 0 0 := by
  refine Wr.of (by decide) (Nat.le_of_ble_eq_true rfl) ?_
  intro p e s m args below meth c ls hC hr hlocks hB hS hl
  have hx := hC.1
  have hb := hC.2.1
  have hA : ∀ q, (inM b) q → (inM b) q := fun _ h => h
  obtain ⟨hT, hR, hT8, hR6⟩ := id hI
  have hl : lv_has ls 2 [(0, .ref (b 5)), (1, .int (x))] := hl
  refine lv_aload_n hx hb dX1_openSeconds_0 rfl (lv_at hl 0 rfl) ?_
  refine lv_iconst (v := 0) hx hb dX1_openSeconds_1 (by decide) ?_
  refine pM_thrown hC hB hS hA dX1_openSeconds_2 (fun H locs hB hS => ?_)
  refine lv_aload_n hx hb dX1_openSeconds_5 rfl (lv_at hl 0 rfl) ?_
  refine lv_iload_n hx hb dX1_openSeconds_6 rfl (lv_at hl 1 rfl) ?_
  refine k_X1_isTower hC (c_X1_isTower_no l D cI b (up2 N 5 0 0) (x) (MI_5 (hI)) hx0) hB rfl ⟨rfl, rfl⟩ ⟨Nat.le_of_ble_eq_true rfl, Nat.le_of_ble_eq_true rfl⟩ ⟨Nat.zero_le _, Nat.zero_le _⟩ hl.1 rfl (Nat.le_of_ble_eq_true rfl) dX1_openSeconds_7 ?_
  refine lv_if_eq (tgt := 21) hx hb dX1_openSeconds_10 (by decide) (fun c1 => ?_) (fun c1 => ?_)
  · refine lv_aload_n hx hb dX1_openSeconds_21 rfl (lv_at hl 0 rfl) ?_
    refine lv_iconst (v := 1) hx hb dX1_openSeconds_22 (by decide) ?_
    refine kw_X1_fail hC (c_X1_fail l D cI b (up2 N 5 0 0) (1)) hB rfl ⟨rfl, rfl⟩ ⟨Nat.le_of_ble_eq_true rfl, Nat.le_of_ble_eq_true rfl⟩ ⟨Nat.le_of_ble_eq_true rfl, Nat.le_of_ble_eq_true rfl⟩ hS hA hl.1 rfl (Nat.le_of_ble_eq_true rfl) dX1_openSeconds_23 (fun H locs hB hS => ?_)
    exact wr_i hC hr hlocks mov_M (hB) hS dX1_openSeconds_26 (by rfl)
  · exfalso; revert c1; decide
set_option maxHeartbeats 4000000 in
set_option maxRecDepth 100000 in
theorem c_X1_secondsUntilStroke_f (l : Launch) (D : va_G) (cI : ClassId) (b : Nat → Nat) (N : bS) {T R : Nat} (x : Int32) (hI : MI N T R) (hx0 : isI x 0 (nI T - 1) = 0) : Wr l yX1_secondsUntilStroke cX1_secondsUntilStroke 2 (some .int) ({ frames := 2, cells := 0, slots := 0, locals := 43 } : Room) (MW D cI b N) (MW D cI b (up2 (up2 N 5 0 0) 5 0 1)) (inM b) [.ref (b 5), .int (x)] (some (.int (0))) 0 0 := by
  refine Wr.of (by decide) (Nat.le_of_ble_eq_true rfl) ?_
  intro p e s m args below meth c ls hC hr hlocks hB hS hl
  have hx := hC.1
  have hb := hC.2.1
  have hA : ∀ q, (inM b) q → (inM b) q := fun _ h => h
  obtain ⟨hT, hR, hT8, hR6⟩ := id hI
  have hl : lv_has ls 2 [(0, .ref (b 5)), (1, .int (x))] := hl
  refine lv_aload_n hx hb dX1_secondsUntilStroke_0 rfl (lv_at hl 0 rfl) ?_
  refine lv_iconst (v := 0) hx hb dX1_secondsUntilStroke_1 (by decide) ?_
  refine pM_thrown hC hB hS hA dX1_secondsUntilStroke_2 (fun H locs hB hS => ?_)
  refine lv_aload_n hx hb dX1_secondsUntilStroke_5 rfl (lv_at hl 0 rfl) ?_
  refine lv_iload_n hx hb dX1_secondsUntilStroke_6 rfl (lv_at hl 1 rfl) ?_
  refine k_X1_isTower hC (c_X1_isTower_no l D cI b (up2 N 5 0 0) (x) (MI_5 (hI)) hx0) hB rfl ⟨rfl, rfl⟩ ⟨Nat.le_of_ble_eq_true rfl, Nat.le_of_ble_eq_true rfl⟩ ⟨Nat.zero_le _, Nat.zero_le _⟩ hl.1 rfl (Nat.le_of_ble_eq_true rfl) dX1_secondsUntilStroke_7 ?_
  refine lv_if_eq (tgt := 21) hx hb dX1_secondsUntilStroke_10 (by decide) (fun c1 => ?_) (fun c1 => ?_)
  · refine lv_aload_n hx hb dX1_secondsUntilStroke_21 rfl (lv_at hl 0 rfl) ?_
    refine lv_iconst (v := 1) hx hb dX1_secondsUntilStroke_22 (by decide) ?_
    refine kw_X1_fail hC (c_X1_fail l D cI b (up2 N 5 0 0) (1)) hB rfl ⟨rfl, rfl⟩ ⟨Nat.le_of_ble_eq_true rfl, Nat.le_of_ble_eq_true rfl⟩ ⟨Nat.le_of_ble_eq_true rfl, Nat.le_of_ble_eq_true rfl⟩ hS hA hl.1 rfl (Nat.le_of_ble_eq_true rfl) dX1_secondsUntilStroke_23 (fun H locs hB hS => ?_)
    exact wr_i hC hr hlocks mov_M (hB) hS dX1_secondsUntilStroke_26 (by rfl)
  · exfalso; revert c1; decide
set_option maxHeartbeats 4000000 in
set_option maxRecDepth 100000 in
theorem c_X1_closingPrice_f (l : Launch) (D : va_G) (cI : ClassId) (b : Nat → Nat) (N : bS) {T R : Nat} (x : Int32) (hI : MI N T R) (hx0 : isI x 0 (nI T - 1) = 0) : Wr l yX1_closingPrice cX1_closingPrice 2 (some .int) ({ frames := 4, cells := 0, slots := 0, locals := 90 } : Room) (MW D cI b N) (MW D cI b (up2 (up2 N 5 0 0) 5 0 1)) (inM b) [.ref (b 5), .int (x)] (some (.int (0))) 0 0 := by
  refine Wr.of (by decide) (Nat.le_of_ble_eq_true rfl) ?_
  intro p e s m args below meth c ls hC hr hlocks hB hS hl
  have hx := hC.1
  have hb := hC.2.1
  have hA : ∀ q, (inM b) q → (inM b) q := fun _ h => h
  obtain ⟨hT, hR, hT8, hR6⟩ := id hI
  have hl : lv_has ls 2 [(0, .ref (b 5)), (1, .int (x))] := hl
  refine lv_aload_n hx hb dX1_closingPrice_0 rfl (lv_at hl 0 rfl) ?_
  refine lv_iconst (v := 0) hx hb dX1_closingPrice_1 (by decide) ?_
  refine pM_thrown hC hB hS hA dX1_closingPrice_2 (fun H locs hB hS => ?_)
  refine lv_aload_n hx hb dX1_closingPrice_5 rfl (lv_at hl 0 rfl) ?_
  refine lv_iload_n hx hb dX1_closingPrice_6 rfl (lv_at hl 1 rfl) ?_
  refine k_X1_isTower hC (c_X1_isTower_no l D cI b (up2 N 5 0 0) (x) (MI_5 (hI)) hx0) hB rfl ⟨rfl, rfl⟩ ⟨Nat.le_of_ble_eq_true rfl, Nat.le_of_ble_eq_true rfl⟩ ⟨Nat.zero_le _, Nat.zero_le _⟩ hl.1 rfl (Nat.le_of_ble_eq_true rfl) dX1_closingPrice_7 ?_
  refine lv_if_eq (tgt := 21) hx hb dX1_closingPrice_10 (by decide) (fun c1 => ?_) (fun c1 => ?_)
  · refine lv_aload_n hx hb dX1_closingPrice_21 rfl (lv_at hl 0 rfl) ?_
    refine lv_iconst (v := 1) hx hb dX1_closingPrice_22 (by decide) ?_
    refine kw_X1_fail hC (c_X1_fail l D cI b (up2 N 5 0 0) (1)) hB rfl ⟨rfl, rfl⟩ ⟨Nat.le_of_ble_eq_true rfl, Nat.le_of_ble_eq_true rfl⟩ ⟨Nat.le_of_ble_eq_true rfl, Nat.le_of_ble_eq_true rfl⟩ hS hA hl.1 rfl (Nat.le_of_ble_eq_true rfl) dX1_closingPrice_23 (fun H locs hB hS => ?_)
    exact wr_i hC hr hlocks mov_M (hB) hS dX1_closingPrice_26 (by rfl)
  · exfalso; revert c1; decide
set_option maxHeartbeats 4000000 in
set_option maxRecDepth 100000 in
theorem c_X1_purseOf_ok (l : Launch) (D : va_G) (cI : ClassId) (b : Nat → Nat) (N : bS) {T R : Nat} {r : Nat} (hI : MI N T R) (hr9 : r < R) : Wr l yX1_purseOf cX1_purseOf 2 (some .int) ({ frames := 2, cells := 0, slots := 0, locals := 43 } : Room) (MW D cI b N) (MW D cI b (up2 N 5 0 0)) (inM b) [.ref (b 5), .int (nI r)] (some (.int (N 3 (17 + r)))) 0 0 := by
  refine Wr.of (by decide) (Nat.le_of_ble_eq_true rfl) ?_
  intro p e s m args below meth c ls hC hr hlocks hB hS hl
  have hx := hC.1
  have hb := hC.2.1
  have hA : ∀ q, (inM b) q → (inM b) q := fun _ h => h
  obtain ⟨hT, hR, hT8, hR6⟩ := id hI
  have hl : lv_has ls 2 [(0, .ref (b 5)), (1, .int (nI r))] := hl
  refine lv_aload_n hx hb dX1_purseOf_0 rfl (lv_at hl 0 rfl) ?_
  refine lv_iconst (v := 0) hx hb dX1_purseOf_1 (by decide) ?_
  refine pM_thrown hC hB hS hA dX1_purseOf_2 (fun H locs hB hS => ?_)
  refine lv_aload_n hx hb dX1_purseOf_5 rfl (lv_at hl 0 rfl) ?_
  refine lv_iload_n hx hb dX1_purseOf_6 rfl (lv_at hl 1 rfl) ?_
  refine k_X1_isTrader hC (c_X1_isTrader_ok l D cI b (up2 N 5 0 0) (t := r) (MI_5 (hI)) (by omega)) hB rfl ⟨rfl, rfl⟩ ⟨Nat.le_of_ble_eq_true rfl, Nat.le_of_ble_eq_true rfl⟩ ⟨Nat.zero_le _, Nat.zero_le _⟩ hl.1 rfl (Nat.le_of_ble_eq_true rfl) dX1_purseOf_7 ?_
  refine lv_if_eq (tgt := 25) hx hb dX1_purseOf_10 (by decide) (fun c1 => ?_) (fun c1 => ?_)
  · exfalso; revert c1; decide
  · refine lv_aload_n hx hb dX1_purseOf_13 rfl (lv_at hl 0 rfl) ?_
    refine gM_now hC hB dX1_purseOf_14 ?_
    refine lv_bipush (v := 17) hx hb dX1_purseOf_17 (by decide) ?_
    refine lv_iload_n hx hb dX1_purseOf_19 rfl (lv_at hl 1 rfl) ?_
    refine xadd (v := nI (17 + r)) hC dX1_purseOf_20 (nadd (i := 17) (j := r) rfl rfl) ?_
    refine lM_now (v := N 3 (17 + r)) (17 + r) hC hB rfl (by omega) (by rw [up2_ne _ _ (by omega)]) dX1_purseOf_21 ?_
    refine lv_goto (tgt := 30) hx hb dX1_purseOf_22 (by decide) ?_
    exact wr_i hC hr hlocks mov_M (hB) hS dX1_purseOf_30 (by rfl)
set_option maxHeartbeats 4000000 in
set_option maxRecDepth 100000 in
theorem c_X1_purseOf_f (l : Launch) (D : va_G) (cI : ClassId) (b : Nat → Nat) (N : bS) {T R : Nat} (x : Int32) (hI : MI N T R) (hx0 : isI x 0 (nI R - 1) = 0) : Wr l yX1_purseOf cX1_purseOf 2 (some .int) ({ frames := 2, cells := 0, slots := 0, locals := 43 } : Room) (MW D cI b N) (MW D cI b (up2 (up2 N 5 0 0) 5 0 1)) (inM b) [.ref (b 5), .int (x)] (some (.int (0))) 0 0 := by
  refine Wr.of (by decide) (Nat.le_of_ble_eq_true rfl) ?_
  intro p e s m args below meth c ls hC hr hlocks hB hS hl
  have hx := hC.1
  have hb := hC.2.1
  have hA : ∀ q, (inM b) q → (inM b) q := fun _ h => h
  obtain ⟨hT, hR, hT8, hR6⟩ := id hI
  have hl : lv_has ls 2 [(0, .ref (b 5)), (1, .int (x))] := hl
  refine lv_aload_n hx hb dX1_purseOf_0 rfl (lv_at hl 0 rfl) ?_
  refine lv_iconst (v := 0) hx hb dX1_purseOf_1 (by decide) ?_
  refine pM_thrown hC hB hS hA dX1_purseOf_2 (fun H locs hB hS => ?_)
  refine lv_aload_n hx hb dX1_purseOf_5 rfl (lv_at hl 0 rfl) ?_
  refine lv_iload_n hx hb dX1_purseOf_6 rfl (lv_at hl 1 rfl) ?_
  refine k_X1_isTrader hC (c_X1_isTrader_no l D cI b (up2 N 5 0 0) (x) (MI_5 (hI)) hx0) hB rfl ⟨rfl, rfl⟩ ⟨Nat.le_of_ble_eq_true rfl, Nat.le_of_ble_eq_true rfl⟩ ⟨Nat.zero_le _, Nat.zero_le _⟩ hl.1 rfl (Nat.le_of_ble_eq_true rfl) dX1_purseOf_7 ?_
  refine lv_if_eq (tgt := 25) hx hb dX1_purseOf_10 (by decide) (fun c1 => ?_) (fun c1 => ?_)
  · refine lv_aload_n hx hb dX1_purseOf_25 rfl (lv_at hl 0 rfl) ?_
    refine lv_iconst (v := 1) hx hb dX1_purseOf_26 (by decide) ?_
    refine kw_X1_fail hC (c_X1_fail l D cI b (up2 N 5 0 0) (1)) hB rfl ⟨rfl, rfl⟩ ⟨Nat.le_of_ble_eq_true rfl, Nat.le_of_ble_eq_true rfl⟩ ⟨Nat.le_of_ble_eq_true rfl, Nat.le_of_ble_eq_true rfl⟩ hS hA hl.1 rfl (Nat.le_of_ble_eq_true rfl) dX1_purseOf_27 (fun H locs hB hS => ?_)
    exact wr_i hC hr hlocks mov_M (hB) hS dX1_purseOf_30 (by rfl)
  · exfalso; revert c1; decide
set_option maxHeartbeats 4000000 in
set_option maxRecDepth 100000 in
theorem c_X1_worthOf_ok (l : Launch) (D : va_G) (cI : ClassId) (b : Nat → Nat) (N : bS) {T R : Nat} {r : Nat} (hI : MI N T R) (hr9 : r < R) : Wr l yX1_worthOf cX1_worthOf 2 (some .int) ({ frames := 5, cells := 0, slots := 0, locals := 113 } : Room) (MW D cI b N) (MW D cI b (up2 N 5 0 0)) (inM b) [.ref (b 5), .int (nI r)] (some (.int (mWo N T R r))) 0 0 := by
  refine Wr.of (by decide) (Nat.le_of_ble_eq_true rfl) ?_
  intro p e s m args below meth c ls hC hr hlocks hB hS hl
  have hx := hC.1
  have hb := hC.2.1
  have hA : ∀ q, (inM b) q → (inM b) q := fun _ h => h
  obtain ⟨hT, hR, hT8, hR6⟩ := id hI
  have hl : lv_has ls 2 [(0, .ref (b 5)), (1, .int (nI r))] := hl
  refine lv_aload_n hx hb dX1_worthOf_0 rfl (lv_at hl 0 rfl) ?_
  refine lv_iconst (v := 0) hx hb dX1_worthOf_1 (by decide) ?_
  refine pM_thrown hC hB hS hA dX1_worthOf_2 (fun H locs hB hS => ?_)
  refine lv_aload_n hx hb dX1_worthOf_5 rfl (lv_at hl 0 rfl) ?_
  refine lv_iload_n hx hb dX1_worthOf_6 rfl (lv_at hl 1 rfl) ?_
  refine k_X1_isTrader hC (c_X1_isTrader_ok l D cI b (up2 N 5 0 0) (t := r) (MI_5 (hI)) (by omega)) hB rfl ⟨rfl, rfl⟩ ⟨Nat.le_of_ble_eq_true rfl, Nat.le_of_ble_eq_true rfl⟩ ⟨Nat.zero_le _, Nat.zero_le _⟩ hl.1 rfl (Nat.le_of_ble_eq_true rfl) dX1_worthOf_7 ?_
  refine lv_if_eq (tgt := 21) hx hb dX1_worthOf_10 (by decide) (fun c1 => ?_) (fun c1 => ?_)
  · exfalso; revert c1; decide
  · refine lv_aload_n hx hb dX1_worthOf_13 rfl (lv_at hl 0 rfl) ?_
    refine lv_iload_n hx hb dX1_worthOf_14 rfl (lv_at hl 1 rfl) ?_
    refine k_X1_worth hC (c_X1_worth l D cI b (up2 N 5 0 0) (r := r) (MI_5 (hI)) (by omega)) hB rfl ⟨rfl, rfl⟩ ⟨Nat.le_of_ble_eq_true rfl, Nat.le_of_ble_eq_true rfl⟩ ⟨Nat.zero_le _, Nat.zero_le _⟩ hl.1 rfl (Nat.le_of_ble_eq_true rfl) dX1_worthOf_15 ?_
    refine lv_goto (tgt := 26) hx hb dX1_worthOf_18 (by decide) ?_
    exact wr_i hC hr hlocks mov_M (hB) hS dX1_worthOf_26 (by rfl)
set_option maxHeartbeats 4000000 in
set_option maxRecDepth 100000 in
theorem c_X1_worthOf_f (l : Launch) (D : va_G) (cI : ClassId) (b : Nat → Nat) (N : bS) {T R : Nat} (x : Int32) (hI : MI N T R) (hx0 : isI x 0 (nI R - 1) = 0) : Wr l yX1_worthOf cX1_worthOf 2 (some .int) ({ frames := 5, cells := 0, slots := 0, locals := 113 } : Room) (MW D cI b N) (MW D cI b (up2 (up2 N 5 0 0) 5 0 1)) (inM b) [.ref (b 5), .int (x)] (some (.int (0))) 0 0 := by
  refine Wr.of (by decide) (Nat.le_of_ble_eq_true rfl) ?_
  intro p e s m args below meth c ls hC hr hlocks hB hS hl
  have hx := hC.1
  have hb := hC.2.1
  have hA : ∀ q, (inM b) q → (inM b) q := fun _ h => h
  obtain ⟨hT, hR, hT8, hR6⟩ := id hI
  have hl : lv_has ls 2 [(0, .ref (b 5)), (1, .int (x))] := hl
  refine lv_aload_n hx hb dX1_worthOf_0 rfl (lv_at hl 0 rfl) ?_
  refine lv_iconst (v := 0) hx hb dX1_worthOf_1 (by decide) ?_
  refine pM_thrown hC hB hS hA dX1_worthOf_2 (fun H locs hB hS => ?_)
  refine lv_aload_n hx hb dX1_worthOf_5 rfl (lv_at hl 0 rfl) ?_
  refine lv_iload_n hx hb dX1_worthOf_6 rfl (lv_at hl 1 rfl) ?_
  refine k_X1_isTrader hC (c_X1_isTrader_no l D cI b (up2 N 5 0 0) (x) (MI_5 (hI)) hx0) hB rfl ⟨rfl, rfl⟩ ⟨Nat.le_of_ble_eq_true rfl, Nat.le_of_ble_eq_true rfl⟩ ⟨Nat.zero_le _, Nat.zero_le _⟩ hl.1 rfl (Nat.le_of_ble_eq_true rfl) dX1_worthOf_7 ?_
  refine lv_if_eq (tgt := 21) hx hb dX1_worthOf_10 (by decide) (fun c1 => ?_) (fun c1 => ?_)
  · refine lv_aload_n hx hb dX1_worthOf_21 rfl (lv_at hl 0 rfl) ?_
    refine lv_iconst (v := 1) hx hb dX1_worthOf_22 (by decide) ?_
    refine kw_X1_fail hC (c_X1_fail l D cI b (up2 N 5 0 0) (1)) hB rfl ⟨rfl, rfl⟩ ⟨Nat.le_of_ble_eq_true rfl, Nat.le_of_ble_eq_true rfl⟩ ⟨Nat.le_of_ble_eq_true rfl, Nat.le_of_ble_eq_true rfl⟩ hS hA hl.1 rfl (Nat.le_of_ble_eq_true rfl) dX1_worthOf_23 (fun H locs hB hS => ?_)
    exact wr_i hC hr hlocks mov_M (hB) hS dX1_worthOf_26 (by rfl)
  · exfalso; revert c1; decide
set_option maxHeartbeats 4000000 in
set_option maxRecDepth 100000 in
theorem c_X1_shortsOf_ok (l : Launch) (D : va_G) (cI : ClassId) (b : Nat → Nat) (N : bS) {T R : Nat} {r : Nat} (hI : MI N T R) (hr9 : r < R) : Wr l yX1_shortsOf cX1_shortsOf 2 (some .int) ({ frames := 2, cells := 0, slots := 0, locals := 44 } : Room) (MW D cI b N) (MW D cI b (up2 N 5 0 0)) (inM b) [.ref (b 5), .int (nI r)] (some (.int (mSh N T r))) 0 0 := by
  refine Wr.of (by decide) (Nat.le_of_ble_eq_true rfl) ?_
  intro p e s m args below meth c ls hC hr hlocks hB hS hl
  have hx := hC.1
  have hb := hC.2.1
  have hA : ∀ q, (inM b) q → (inM b) q := fun _ h => h
  obtain ⟨hT, hR, hT8, hR6⟩ := id hI
  have hl : lv_has ls 2 [(0, .ref (b 5)), (1, .int (nI r))] := hl
  refine lv_aload_n hx hb dX1_shortsOf_0 rfl (lv_at hl 0 rfl) ?_
  refine lv_iconst (v := 0) hx hb dX1_shortsOf_1 (by decide) ?_
  refine pM_thrown hC hB hS hA dX1_shortsOf_2 (fun H locs hB hS => ?_)
  refine lv_aload_n hx hb dX1_shortsOf_5 rfl (lv_at hl 0 rfl) ?_
  refine lv_iload_n hx hb dX1_shortsOf_6 rfl (lv_at hl 1 rfl) ?_
  refine k_X1_isTrader hC (c_X1_isTrader_ok l D cI b (up2 N 5 0 0) (t := r) (MI_5 (hI)) (by omega)) hB rfl ⟨rfl, rfl⟩ ⟨Nat.le_of_ble_eq_true rfl, Nat.le_of_ble_eq_true rfl⟩ ⟨Nat.zero_le _, Nat.zero_le _⟩ hl.1 rfl (Nat.le_of_ble_eq_true rfl) dX1_shortsOf_7 ?_
  refine lv_if_eq (tgt := 21) hx hb dX1_shortsOf_10 (by decide) (fun c1 => ?_) (fun c1 => ?_)
  · exfalso; revert c1; decide
  · refine lv_aload_n hx hb dX1_shortsOf_13 rfl (lv_at hl 0 rfl) ?_
    refine lv_iload_n hx hb dX1_shortsOf_14 rfl (lv_at hl 1 rfl) ?_
    refine k_X1_shorts hC (c_X1_shorts l D cI b (up2 N 5 0 0) (r := r) (MI_5 (hI)) (by omega)) hB rfl ⟨rfl, rfl⟩ ⟨Nat.le_of_ble_eq_true rfl, Nat.le_of_ble_eq_true rfl⟩ ⟨Nat.zero_le _, Nat.zero_le _⟩ hl.1 rfl (Nat.le_of_ble_eq_true rfl) dX1_shortsOf_15 ?_
    refine lv_goto (tgt := 26) hx hb dX1_shortsOf_18 (by decide) ?_
    exact wr_i hC hr hlocks mov_M (hB) hS dX1_shortsOf_26 (by rfl)
set_option maxHeartbeats 4000000 in
set_option maxRecDepth 100000 in
theorem c_X1_shortsOf_f (l : Launch) (D : va_G) (cI : ClassId) (b : Nat → Nat) (N : bS) {T R : Nat} (x : Int32) (hI : MI N T R) (hx0 : isI x 0 (nI R - 1) = 0) : Wr l yX1_shortsOf cX1_shortsOf 2 (some .int) ({ frames := 2, cells := 0, slots := 0, locals := 44 } : Room) (MW D cI b N) (MW D cI b (up2 (up2 N 5 0 0) 5 0 1)) (inM b) [.ref (b 5), .int (x)] (some (.int (0))) 0 0 := by
  refine Wr.of (by decide) (Nat.le_of_ble_eq_true rfl) ?_
  intro p e s m args below meth c ls hC hr hlocks hB hS hl
  have hx := hC.1
  have hb := hC.2.1
  have hA : ∀ q, (inM b) q → (inM b) q := fun _ h => h
  obtain ⟨hT, hR, hT8, hR6⟩ := id hI
  have hl : lv_has ls 2 [(0, .ref (b 5)), (1, .int (x))] := hl
  refine lv_aload_n hx hb dX1_shortsOf_0 rfl (lv_at hl 0 rfl) ?_
  refine lv_iconst (v := 0) hx hb dX1_shortsOf_1 (by decide) ?_
  refine pM_thrown hC hB hS hA dX1_shortsOf_2 (fun H locs hB hS => ?_)
  refine lv_aload_n hx hb dX1_shortsOf_5 rfl (lv_at hl 0 rfl) ?_
  refine lv_iload_n hx hb dX1_shortsOf_6 rfl (lv_at hl 1 rfl) ?_
  refine k_X1_isTrader hC (c_X1_isTrader_no l D cI b (up2 N 5 0 0) (x) (MI_5 (hI)) hx0) hB rfl ⟨rfl, rfl⟩ ⟨Nat.le_of_ble_eq_true rfl, Nat.le_of_ble_eq_true rfl⟩ ⟨Nat.zero_le _, Nat.zero_le _⟩ hl.1 rfl (Nat.le_of_ble_eq_true rfl) dX1_shortsOf_7 ?_
  refine lv_if_eq (tgt := 21) hx hb dX1_shortsOf_10 (by decide) (fun c1 => ?_) (fun c1 => ?_)
  · refine lv_aload_n hx hb dX1_shortsOf_21 rfl (lv_at hl 0 rfl) ?_
    refine lv_iconst (v := 1) hx hb dX1_shortsOf_22 (by decide) ?_
    refine kw_X1_fail hC (c_X1_fail l D cI b (up2 N 5 0 0) (1)) hB rfl ⟨rfl, rfl⟩ ⟨Nat.le_of_ble_eq_true rfl, Nat.le_of_ble_eq_true rfl⟩ ⟨Nat.le_of_ble_eq_true rfl, Nat.le_of_ble_eq_true rfl⟩ hS hA hl.1 rfl (Nat.le_of_ble_eq_true rfl) dX1_shortsOf_23 (fun H locs hB hS => ?_)
    exact wr_i hC hr hlocks mov_M (hB) hS dX1_shortsOf_26 (by rfl)
  · exfalso; revert c1; decide
set_option maxHeartbeats 4000000 in
set_option maxRecDepth 100000 in
theorem c_X1_holds_ok (l : Launch) (D : va_G) (cI : ClassId) (b : Nat → Nat) (N : bS) {T R : Nat} {r t : Nat} (hI : MI N T R) (hr9 : r < R) (ht : t < T) : Wr l yX1_holds cX1_holds 3 (some .int) ({ frames := 2, cells := 0, slots := 0, locals := 43 } : Room) (MW D cI b N) (MW D cI b (up2 N 5 0 0)) (inM b) [.ref (b 5), .int (nI r), .int (nI t)] (some (.int (N 3 (23 + 8 * r + t)))) 0 0 := by
  refine Wr.of (by decide) (Nat.le_of_ble_eq_true rfl) ?_
  intro p e s m args below meth c ls hC hr hlocks hB hS hl
  have hx := hC.1
  have hb := hC.2.1
  have hA : ∀ q, (inM b) q → (inM b) q := fun _ h => h
  obtain ⟨hT, hR, hT8, hR6⟩ := id hI
  have hl : lv_has ls 3 [(0, .ref (b 5)), (1, .int (nI r)), (2, .int (nI t))] := hl
  refine lv_aload_n hx hb dX1_holds_0 rfl (lv_at hl 0 rfl) ?_
  refine lv_iconst (v := 0) hx hb dX1_holds_1 (by decide) ?_
  refine pM_thrown hC hB hS hA dX1_holds_2 (fun H locs hB hS => ?_)
  refine lv_aload_n hx hb dX1_holds_5 rfl (lv_at hl 0 rfl) ?_
  refine lv_iload_n hx hb dX1_holds_6 rfl (lv_at hl 1 rfl) ?_
  refine k_X1_isTrader hC (c_X1_isTrader_ok l D cI b (up2 N 5 0 0) (t := r) (MI_5 (hI)) (by omega)) hB rfl ⟨rfl, rfl⟩ ⟨Nat.le_of_ble_eq_true rfl, Nat.le_of_ble_eq_true rfl⟩ ⟨Nat.zero_le _, Nat.zero_le _⟩ hl.1 rfl (Nat.le_of_ble_eq_true rfl) dX1_holds_7 ?_
  refine lv_if_eq (tgt := 34) hx hb dX1_holds_10 (by decide) (fun c1 => ?_) (fun c1 => ?_)
  · exfalso; revert c1; decide
  · refine lv_aload_n hx hb dX1_holds_13 rfl (lv_at hl 0 rfl) ?_
    refine lv_iload_n hx hb dX1_holds_14 rfl (lv_at hl 2 rfl) ?_
    refine k_X1_isTower hC (c_X1_isTower_ok l D cI b (up2 N 5 0 0) (t := t) (MI_5 (hI)) (by omega)) hB rfl ⟨rfl, rfl⟩ ⟨Nat.le_of_ble_eq_true rfl, Nat.le_of_ble_eq_true rfl⟩ ⟨Nat.zero_le _, Nat.zero_le _⟩ hl.1 rfl (Nat.le_of_ble_eq_true rfl) dX1_holds_15 ?_
    refine lv_if_eq (tgt := 34) hx hb dX1_holds_18 (by decide) (fun c2 => ?_) (fun c2 => ?_)
    · exfalso; revert c2; decide
    · refine lv_aload_n hx hb dX1_holds_21 rfl (lv_at hl 0 rfl) ?_
      refine gM_now hC hB dX1_holds_22 ?_
      refine lv_iload_n hx hb dX1_holds_25 rfl (lv_at hl 1 rfl) ?_
      refine lv_iload_n hx hb dX1_holds_26 rfl (lv_at hl 2 rfl) ?_
      refine k_X1_at hC (c_X1_at l (r := r) (t := t)) mov_T trivial rfl ⟨rfl, rfl⟩ ⟨Nat.le_of_ble_eq_true rfl, Nat.le_of_ble_eq_true rfl⟩ ⟨Nat.zero_le _, Nat.zero_le _⟩ hl.1 rfl (Nat.le_of_ble_eq_true rfl) dX1_holds_27 ?_
      refine lM_now (v := N 3 (23 + 8 * r + t)) (23 + 8 * r + t) hC hB rfl (by omega) (by rw [up2_ne _ _ (by omega)]) dX1_holds_30 ?_
      refine lv_goto (tgt := 39) hx hb dX1_holds_31 (by decide) ?_
      exact wr_i hC hr hlocks mov_M (hB) hS dX1_holds_39 (by rfl)
set_option maxHeartbeats 4000000 in
set_option maxRecDepth 100000 in
theorem c_X1_holds_f (l : Launch) (D : va_G) (cI : ClassId) (b : Nat → Nat) (N : bS) {T R : Nat} (x y : Int32) (hI : MI N T R) (hx0 : isI x 0 (nI R - 1) = 0) : Wr l yX1_holds cX1_holds 3 (some .int) ({ frames := 2, cells := 0, slots := 0, locals := 43 } : Room) (MW D cI b N) (MW D cI b (up2 (up2 N 5 0 0) 5 0 1)) (inM b) [.ref (b 5), .int (x), .int (y)] (some (.int (0))) 0 0 := by
  refine Wr.of (by decide) (Nat.le_of_ble_eq_true rfl) ?_
  intro p e s m args below meth c ls hC hr hlocks hB hS hl
  have hx := hC.1
  have hb := hC.2.1
  have hA : ∀ q, (inM b) q → (inM b) q := fun _ h => h
  obtain ⟨hT, hR, hT8, hR6⟩ := id hI
  have hl : lv_has ls 3 [(0, .ref (b 5)), (1, .int (x)), (2, .int (y))] := hl
  refine lv_aload_n hx hb dX1_holds_0 rfl (lv_at hl 0 rfl) ?_
  refine lv_iconst (v := 0) hx hb dX1_holds_1 (by decide) ?_
  refine pM_thrown hC hB hS hA dX1_holds_2 (fun H locs hB hS => ?_)
  refine lv_aload_n hx hb dX1_holds_5 rfl (lv_at hl 0 rfl) ?_
  refine lv_iload_n hx hb dX1_holds_6 rfl (lv_at hl 1 rfl) ?_
  refine k_X1_isTrader hC (c_X1_isTrader_no l D cI b (up2 N 5 0 0) (x) (MI_5 (hI)) hx0) hB rfl ⟨rfl, rfl⟩ ⟨Nat.le_of_ble_eq_true rfl, Nat.le_of_ble_eq_true rfl⟩ ⟨Nat.zero_le _, Nat.zero_le _⟩ hl.1 rfl (Nat.le_of_ble_eq_true rfl) dX1_holds_7 ?_
  refine lv_if_eq (tgt := 34) hx hb dX1_holds_10 (by decide) (fun c1 => ?_) (fun c1 => ?_)
  · refine lv_aload_n hx hb dX1_holds_34 rfl (lv_at hl 0 rfl) ?_
    refine lv_iconst (v := 1) hx hb dX1_holds_35 (by decide) ?_
    refine kw_X1_fail hC (c_X1_fail l D cI b (up2 N 5 0 0) (1)) hB rfl ⟨rfl, rfl⟩ ⟨Nat.le_of_ble_eq_true rfl, Nat.le_of_ble_eq_true rfl⟩ ⟨Nat.le_of_ble_eq_true rfl, Nat.le_of_ble_eq_true rfl⟩ hS hA hl.1 rfl (Nat.le_of_ble_eq_true rfl) dX1_holds_36 (fun H locs hB hS => ?_)
    exact wr_i hC hr hlocks mov_M (hB) hS dX1_holds_39 (by rfl)
  · exfalso; revert c1; decide
set_option maxHeartbeats 4000000 in
set_option maxRecDepth 100000 in
theorem c_X1_holds_g (l : Launch) (D : va_G) (cI : ClassId) (b : Nat → Nat) (N : bS) {T R : Nat} {r : Nat} (y : Int32) (hI : MI N T R) (hr9 : r < R) (hy0 : isI y 0 (nI T - 1) = 0) : Wr l yX1_holds cX1_holds 3 (some .int) ({ frames := 2, cells := 0, slots := 0, locals := 43 } : Room) (MW D cI b N) (MW D cI b (up2 (up2 N 5 0 0) 5 0 1)) (inM b) [.ref (b 5), .int (nI r), .int (y)] (some (.int (0))) 0 0 := by
  refine Wr.of (by decide) (Nat.le_of_ble_eq_true rfl) ?_
  intro p e s m args below meth c ls hC hr hlocks hB hS hl
  have hx := hC.1
  have hb := hC.2.1
  have hA : ∀ q, (inM b) q → (inM b) q := fun _ h => h
  obtain ⟨hT, hR, hT8, hR6⟩ := id hI
  have hl : lv_has ls 3 [(0, .ref (b 5)), (1, .int (nI r)), (2, .int (y))] := hl
  refine lv_aload_n hx hb dX1_holds_0 rfl (lv_at hl 0 rfl) ?_
  refine lv_iconst (v := 0) hx hb dX1_holds_1 (by decide) ?_
  refine pM_thrown hC hB hS hA dX1_holds_2 (fun H locs hB hS => ?_)
  refine lv_aload_n hx hb dX1_holds_5 rfl (lv_at hl 0 rfl) ?_
  refine lv_iload_n hx hb dX1_holds_6 rfl (lv_at hl 1 rfl) ?_
  refine k_X1_isTrader hC (c_X1_isTrader_ok l D cI b (up2 N 5 0 0) (t := r) (MI_5 (hI)) (by omega)) hB rfl ⟨rfl, rfl⟩ ⟨Nat.le_of_ble_eq_true rfl, Nat.le_of_ble_eq_true rfl⟩ ⟨Nat.zero_le _, Nat.zero_le _⟩ hl.1 rfl (Nat.le_of_ble_eq_true rfl) dX1_holds_7 ?_
  refine lv_if_eq (tgt := 34) hx hb dX1_holds_10 (by decide) (fun c1 => ?_) (fun c1 => ?_)
  · exfalso; revert c1; decide
  · refine lv_aload_n hx hb dX1_holds_13 rfl (lv_at hl 0 rfl) ?_
    refine lv_iload_n hx hb dX1_holds_14 rfl (lv_at hl 2 rfl) ?_
    refine k_X1_isTower hC (c_X1_isTower_no l D cI b (up2 N 5 0 0) (y) (MI_5 (hI)) hy0) hB rfl ⟨rfl, rfl⟩ ⟨Nat.le_of_ble_eq_true rfl, Nat.le_of_ble_eq_true rfl⟩ ⟨Nat.zero_le _, Nat.zero_le _⟩ hl.1 rfl (Nat.le_of_ble_eq_true rfl) dX1_holds_15 ?_
    refine lv_if_eq (tgt := 34) hx hb dX1_holds_18 (by decide) (fun c2 => ?_) (fun c2 => ?_)
    · refine lv_aload_n hx hb dX1_holds_34 rfl (lv_at hl 0 rfl) ?_
      refine lv_iconst (v := 1) hx hb dX1_holds_35 (by decide) ?_
      refine kw_X1_fail hC (c_X1_fail l D cI b (up2 N 5 0 0) (1)) hB rfl ⟨rfl, rfl⟩ ⟨Nat.le_of_ble_eq_true rfl, Nat.le_of_ble_eq_true rfl⟩ ⟨Nat.le_of_ble_eq_true rfl, Nat.le_of_ble_eq_true rfl⟩ hS hA hl.1 rfl (Nat.le_of_ble_eq_true rfl) dX1_holds_36 (fun H locs hB hS => ?_)
      exact wr_i hC hr hlocks mov_M (hB) hS dX1_holds_39 (by rfl)
    · exfalso; revert c2; decide
set_option maxHeartbeats 4000000 in
set_option maxRecDepth 100000 in
theorem c_X1_pass_ok (l : Launch) (D : va_G) (cI : ClassId) (b : Nat → Nat) (N : bS) {T R : Nat} {k : Nat} (hI : MI N T R) (hP : mP N T) (hk1 : 1 ≤ k) (hk9 : k ≤ 60) : Wr l yX1_pass cX1_pass 2 (some .int) ({ frames := 6, cells := 0, slots := 0, locals := 137 } : Room) (MW D cI b N) (MW D cI b (mPa (up2 N 5 0 0) T R k)) (inM b) [.ref (b 5), .int (nI k)] (some (.int (mPc (up2 N 5 0 0) T R k))) 0 0 := by
  refine Wr.of (by decide) (Nat.le_of_ble_eq_true rfl) ?_
  intro p e s m args below meth c ls hC hr hlocks hB hS hl
  have hx := hC.1
  have hb := hC.2.1
  have hA : ∀ q, (inM b) q → (inM b) q := fun _ h => h
  obtain ⟨hT, hR, hT8, hR6⟩ := id hI
  have hl : lv_has ls 2 [(0, .ref (b 5)), (1, .int (nI k))] := hl
  refine lv_aload_n hx hb dX1_pass_0 rfl (lv_at hl 0 rfl) ?_
  refine lv_iconst (v := 0) hx hb dX1_pass_1 (by decide) ?_
  refine pM_thrown hC hB hS hA dX1_pass_2 (fun H locs hB hS => ?_)
  refine lv_iload_n hx hb dX1_pass_5 rfl (lv_at hl 1 rfl) ?_
  refine lv_iconst (v := 1) hx hb dX1_pass_6 (by decide) ?_
  refine lv_bipush (v := 60) hx hb dX1_pass_7 (by decide) ?_
  refine k_X1_isIn hC (c_X1_isIn_ok l (v := k) (lo := 1) (hi := 60) (by omega) (by omega) (by omega)) mov_T trivial rfl ⟨rfl, rfl⟩ ⟨Nat.le_of_ble_eq_true rfl, Nat.le_of_ble_eq_true rfl⟩ ⟨Nat.zero_le _, Nat.zero_le _⟩ hl.1 rfl (Nat.le_of_ble_eq_true rfl) dX1_pass_9 ?_
  refine lv_if_eq (tgt := 23) hx hb dX1_pass_12 (by decide) (fun c1 => ?_) (fun c1 => ?_)
  · exfalso; revert c1; decide
  · refine lv_aload_n hx hb dX1_pass_15 rfl (lv_at hl 0 rfl) ?_
    refine lv_iload_n hx hb dX1_pass_16 rfl (lv_at hl 1 rfl) ?_
    refine kw_X1_secondsOn hC (c_X1_secondsOn l D cI b (up2 N 5 0 0) (MI_5 (hI)) (mP_5 (hP)) (k := k) (by omega)) hB rfl ⟨rfl, rfl⟩ ⟨Nat.le_of_ble_eq_true rfl, Nat.le_of_ble_eq_true rfl⟩ ⟨Nat.le_of_ble_eq_true rfl, Nat.le_of_ble_eq_true rfl⟩ hS hA hl.1 rfl (Nat.le_of_ble_eq_true rfl) dX1_pass_17 (fun H locs hB hS => ?_)
    refine lv_goto (tgt := 28) hx hb dX1_pass_20 (by decide) ?_
    exact wr_i hC hr hlocks mov_M (hB) hS dX1_pass_28 (by rfl)
set_option maxHeartbeats 4000000 in
set_option maxRecDepth 100000 in
theorem c_X1_pass_f (l : Launch) (D : va_G) (cI : ClassId) (b : Nat → Nat) (N : bS) {T R : Nat} (x : Int32) (hI : MI N T R) (hx0 : isI x 1 60 = 0) : Wr l yX1_pass cX1_pass 2 (some .int) ({ frames := 6, cells := 0, slots := 0, locals := 137 } : Room) (MW D cI b N) (MW D cI b (up2 (up2 N 5 0 0) 5 0 1)) (inM b) [.ref (b 5), .int (x)] (some (.int (0))) 0 0 := by
  refine Wr.of (by decide) (Nat.le_of_ble_eq_true rfl) ?_
  intro p e s m args below meth c ls hC hr hlocks hB hS hl
  have hx := hC.1
  have hb := hC.2.1
  have hA : ∀ q, (inM b) q → (inM b) q := fun _ h => h
  obtain ⟨hT, hR, hT8, hR6⟩ := id hI
  have hl : lv_has ls 2 [(0, .ref (b 5)), (1, .int (x))] := hl
  refine lv_aload_n hx hb dX1_pass_0 rfl (lv_at hl 0 rfl) ?_
  refine lv_iconst (v := 0) hx hb dX1_pass_1 (by decide) ?_
  refine pM_thrown hC hB hS hA dX1_pass_2 (fun H locs hB hS => ?_)
  refine lv_iload_n hx hb dX1_pass_5 rfl (lv_at hl 1 rfl) ?_
  refine lv_iconst (v := 1) hx hb dX1_pass_6 (by decide) ?_
  refine lv_bipush (v := 60) hx hb dX1_pass_7 (by decide) ?_
  refine k_X1_isIn hC (c_X1_isIn_no l (x) (1) (60) hx0) mov_T trivial rfl ⟨rfl, rfl⟩ ⟨Nat.le_of_ble_eq_true rfl, Nat.le_of_ble_eq_true rfl⟩ ⟨Nat.zero_le _, Nat.zero_le _⟩ hl.1 rfl (Nat.le_of_ble_eq_true rfl) dX1_pass_9 ?_
  refine lv_if_eq (tgt := 23) hx hb dX1_pass_12 (by decide) (fun c1 => ?_) (fun c1 => ?_)
  · refine lv_aload_n hx hb dX1_pass_23 rfl (lv_at hl 0 rfl) ?_
    refine lv_iconst (v := 1) hx hb dX1_pass_24 (by decide) ?_
    refine kw_X1_fail hC (c_X1_fail l D cI b (up2 N 5 0 0) (1)) hB rfl ⟨rfl, rfl⟩ ⟨Nat.le_of_ble_eq_true rfl, Nat.le_of_ble_eq_true rfl⟩ ⟨Nat.le_of_ble_eq_true rfl, Nat.le_of_ble_eq_true rfl⟩ hS hA hl.1 rfl (Nat.le_of_ble_eq_true rfl) dX1_pass_25 (fun H locs hB hS => ?_)
    exact wr_i hC hr hlocks mov_M (hB) hS dX1_pass_28 (by rfl)
  · exfalso; revert c1; decide
set_option maxHeartbeats 4000000 in
set_option maxRecDepth 100000 in
theorem c_X1_addTrader_ok (l : Launch) (D : va_G) (cI : ClassId) (b : Nat → Nat) (N : bS) {T R : Nat} (hI : MI N T R) (hlt : R < 6) : Wr l yX1_addTrader cX1_addTrader 1 (some .int) ({ frames := 1, cells := 0, slots := 0, locals := 21 } : Room) (MW D cI b N) (MW D cI b (up2 (up2 (up2 N 5 0 0) 3 (17 + R) 100) 5 2 (nI (R + 1)))) (inM b) [.ref (b 5)] (some (.int (nI R))) 0 0 := by
  refine Wr.of (by decide) (Nat.le_of_ble_eq_true rfl) ?_
  intro p e s m args below meth c ls hC hr hlocks hB hS hl
  have hx := hC.1
  have hb := hC.2.1
  have hA : ∀ q, (inM b) q → (inM b) q := fun _ h => h
  obtain ⟨hT, hR, hT8, hR6⟩ := id hI
  have hl : lv_has ls 1 [(0, .ref (b 5))] := hl
  refine lv_aload_n hx hb dX1_addTrader_0 rfl (lv_at hl 0 rfl) ?_
  refine lv_iconst (v := 0) hx hb dX1_addTrader_1 (by decide) ?_
  refine pM_thrown hC hB hS hA dX1_addTrader_2 (fun H locs hB hS => ?_)
  refine lv_aload_n hx hb dX1_addTrader_5 rfl (lv_at hl 0 rfl) ?_
  refine gM_traders (v := nI R) hC hB (by rw [up2_ne _ _ (by omega)]; exact hR) dX1_addTrader_6 ?_
  refine lv_bipush (v := 6) hx hb dX1_addTrader_9 (by decide) ?_
  refine lv_icmp_ne (tgt := 20) hx hb dX1_addTrader_11 (by decide) (fun c1 => ?_) (fun c1 => ?_)
  · refine lv_aload_n hx hb dX1_addTrader_20 rfl (lv_at hl 0 rfl) ?_
    refine gM_now hC hB dX1_addTrader_21 ?_
    refine lv_bipush (v := 17) hx hb dX1_addTrader_24 (by decide) ?_
    refine lv_aload_n hx hb dX1_addTrader_26 rfl (lv_at hl 0 rfl) ?_
    refine gM_traders (v := nI R) hC hB (by rw [up2_ne _ _ (by omega)]; exact hR) dX1_addTrader_27 ?_
    refine xadd (v := nI (17 + R)) hC dX1_addTrader_30 (nadd (i := 17) (j := R) rfl rfl) ?_
    refine lv_bipush (v := 100) hx hb dX1_addTrader_31 (by decide) ?_
    refine sM_now (17 + R) hC hB rfl (by omega) hS hA dX1_addTrader_33 (fun H locs hB hS => ?_)
    refine lv_aload_n hx hb dX1_addTrader_34 rfl (lv_at hl 0 rfl) ?_
    refine lv_dup hx hb dX1_addTrader_35 rfl ?_
    refine gM_traders (v := nI R) hC hB (by rw [up2_ne _ _ (by omega), up2_ne _ _ (by omega)]; exact hR) dX1_addTrader_36 ?_
    refine lv_iconst (v := 1) hx hb dX1_addTrader_39 (by decide) ?_
    refine xadd (v := nI (R + 1)) hC dX1_addTrader_40 (nadd (i := R) (j := 1) rfl rfl) ?_
    refine pM_traders hC hB hS hA dX1_addTrader_41 (fun H locs hB hS => ?_)
    refine lv_aload_n hx hb dX1_addTrader_44 rfl (lv_at hl 0 rfl) ?_
    refine gM_traders (v := nI (R + 1)) hC hB (by rw [up2_eq]) dX1_addTrader_45 ?_
    refine lv_iconst (v := 1) hx hb dX1_addTrader_48 (by decide) ?_
    refine xsub (v := nI ((R + 1) - 1)) hC dX1_addTrader_49 (pk_sub (a := R + 1) (b := 1) (by omega)) ?_
    exact wr_i hC hr hlocks mov_M (hB) hS dX1_addTrader_50 (by rfl)
  · exact absurd c1 (by have h9 := (nI_eq (a := R) (b := 6) (by omega) (by omega)).mp c1; omega)
set_option maxHeartbeats 4000000 in
set_option maxRecDepth 100000 in
theorem c_X1_addTrader_f (l : Launch) (D : va_G) (cI : ClassId) (b : Nat → Nat) (N : bS) {T R : Nat} (hI : MI N T R) (hlt : R = 6) : Wr l yX1_addTrader cX1_addTrader 1 (some .int) ({ frames := 1, cells := 0, slots := 0, locals := 21 } : Room) (MW D cI b N) (MW D cI b (up2 (up2 N 5 0 0) 5 0 1)) (inM b) [.ref (b 5)] (some (.int (0))) 0 0 := by
  refine Wr.of (by decide) (Nat.le_of_ble_eq_true rfl) ?_
  intro p e s m args below meth c ls hC hr hlocks hB hS hl
  have hx := hC.1
  have hb := hC.2.1
  have hA : ∀ q, (inM b) q → (inM b) q := fun _ h => h
  obtain ⟨hT, hR, hT8, hR6⟩ := id hI
  have hl : lv_has ls 1 [(0, .ref (b 5))] := hl
  refine lv_aload_n hx hb dX1_addTrader_0 rfl (lv_at hl 0 rfl) ?_
  refine lv_iconst (v := 0) hx hb dX1_addTrader_1 (by decide) ?_
  refine pM_thrown hC hB hS hA dX1_addTrader_2 (fun H locs hB hS => ?_)
  refine lv_aload_n hx hb dX1_addTrader_5 rfl (lv_at hl 0 rfl) ?_
  refine gM_traders (v := nI R) hC hB (by rw [up2_ne _ _ (by omega)]; exact hR) dX1_addTrader_6 ?_
  refine lv_bipush (v := 6) hx hb dX1_addTrader_9 (by decide) ?_
  refine lv_icmp_ne (tgt := 20) hx hb dX1_addTrader_11 (by decide) (fun c1 => ?_) (fun c1 => ?_)
  · exfalso; exact c1 (by rw [hlt]; rfl)
  · refine lv_aload_n hx hb dX1_addTrader_14 rfl (lv_at hl 0 rfl) ?_
    refine lv_iconst (v := 1) hx hb dX1_addTrader_15 (by decide) ?_
    refine kw_X1_fail hC (c_X1_fail l D cI b (up2 N 5 0 0) (1)) hB rfl ⟨rfl, rfl⟩ ⟨Nat.le_of_ble_eq_true rfl, Nat.le_of_ble_eq_true rfl⟩ ⟨Nat.le_of_ble_eq_true rfl, Nat.le_of_ble_eq_true rfl⟩ hS hA hl.1 rfl (Nat.le_of_ble_eq_true rfl) dX1_addTrader_16 (fun H locs hB hS => ?_)
    exact wr_i hC hr hlocks mov_M (hB) hS dX1_addTrader_19 (by rfl)
set_option maxHeartbeats 4000000 in
set_option maxRecDepth 100000 in
theorem c_X1_list_ok (l : Launch) (D : va_G) (cI : ClassId) (b : Nat → Nat) (N : bS) {T R : Nat} {w0 p0 b0 : Nat} (hI : MI N T R) (hT7 : T < 8) (hw1 : 1 ≤ w0) (hw9 : w0 ≤ 9) (hp2 : 2 ≤ p0) (hp20 : p0 ≤ 20) (hb0 : b0 < p0) : Wr l yX1_list cX1_list 4 (some .int) ({ frames := 1, cells := 0, slots := 0, locals := 22 } : Room) (MW D cI b N) (MW D cI b (up2 (up2 (up2 (up2 (up2 N 5 0 0) 0 T (nI w0)) 1 T (nI p0)) 2 T (nI b0)) 5 1 (nI (T + 1)))) (inM b) [.ref (b 5), .int (nI w0), .int (nI p0), .int (nI b0)] (some (.int (nI T))) 0 0 := by
  refine Wr.of (by decide) (Nat.le_of_ble_eq_true rfl) ?_
  intro p e s m args below meth c ls hC hr hlocks hB hS hl
  have hx := hC.1
  have hb := hC.2.1
  have hA : ∀ q, (inM b) q → (inM b) q := fun _ h => h
  obtain ⟨hT, hR, hT8, hR6⟩ := id hI
  have hl : lv_has ls 4 [(0, .ref (b 5)), (1, .int (nI w0)), (2, .int (nI p0)), (3, .int (nI b0))] := hl
  refine lv_aload_n hx hb dX1_list_0 rfl (lv_at hl 0 rfl) ?_
  refine lv_iconst (v := 0) hx hb dX1_list_1 (by decide) ?_
  refine pM_thrown hC hB hS hA dX1_list_2 (fun H locs hB hS => ?_)
  refine lv_iload_n hx hb dX1_list_5 rfl (lv_at hl 1 rfl) ?_
  refine lv_iconst (v := 1) hx hb dX1_list_6 (by decide) ?_
  refine lv_bipush (v := 9) hx hb dX1_list_7 (by decide) ?_
  refine k_X1_isIn hC (c_X1_isIn_ok l (v := w0) (lo := 1) (hi := 9) (by omega) (by omega) (by omega)) mov_T trivial rfl ⟨rfl, rfl⟩ ⟨Nat.le_of_ble_eq_true rfl, Nat.le_of_ble_eq_true rfl⟩ ⟨Nat.zero_le _, Nat.zero_le _⟩ hl.1 rfl (Nat.le_of_ble_eq_true rfl) dX1_list_9 ?_
  refine lv_if_eq (tgt := 36) hx hb dX1_list_12 (by decide) (fun c1 => ?_) (fun c1 => ?_)
  · exfalso; revert c1; decide
  · refine lv_iload_n hx hb dX1_list_15 rfl (lv_at hl 2 rfl) ?_
    refine lv_iconst (v := 2) hx hb dX1_list_16 (by decide) ?_
    refine lv_bipush (v := 20) hx hb dX1_list_17 (by decide) ?_
    refine k_X1_isIn hC (c_X1_isIn_ok l (v := p0) (lo := 2) (hi := 20) (by omega) (by omega) (by omega)) mov_T trivial rfl ⟨rfl, rfl⟩ ⟨Nat.le_of_ble_eq_true rfl, Nat.le_of_ble_eq_true rfl⟩ ⟨Nat.zero_le _, Nat.zero_le _⟩ hl.1 rfl (Nat.le_of_ble_eq_true rfl) dX1_list_19 ?_
    refine lv_if_eq (tgt := 36) hx hb dX1_list_22 (by decide) (fun c2 => ?_) (fun c2 => ?_)
    · exfalso; revert c2; decide
    · refine lv_iload_n hx hb dX1_list_25 rfl (lv_at hl 3 rfl) ?_
      refine lv_iconst (v := 0) hx hb dX1_list_26 (by decide) ?_
      refine lv_iload_n hx hb dX1_list_27 rfl (lv_at hl 2 rfl) ?_
      refine lv_iconst (v := 1) hx hb dX1_list_28 (by decide) ?_
      refine xsub (v := nI (p0 - 1)) hC dX1_list_29 (pk_sub (a := p0) (b := 1) (by omega)) ?_
      refine k_X1_isIn hC (c_X1_isIn_ok l (v := b0) (lo := 0) (hi := p0 - 1) (by omega) (by omega) (by omega)) mov_T trivial rfl ⟨rfl, rfl⟩ ⟨Nat.le_of_ble_eq_true rfl, Nat.le_of_ble_eq_true rfl⟩ ⟨Nat.zero_le _, Nat.zero_le _⟩ hl.1 rfl (Nat.le_of_ble_eq_true rfl) dX1_list_30 ?_
      refine lv_if_ne (tgt := 42) hx hb dX1_list_33 (by decide) (fun c3 => ?_) (fun c3 => ?_)
      · refine lv_aload_n hx hb dX1_list_42 rfl (lv_at hl 0 rfl) ?_
        refine gM_towers (v := nI T) hC hB (by rw [up2_ne _ _ (by omega)]; exact hT) dX1_list_43 ?_
        refine lv_bipush (v := 8) hx hb dX1_list_46 (by decide) ?_
        refine lv_icmp_ne (tgt := 57) hx hb dX1_list_48 (by decide) (fun c4 => ?_) (fun c4 => ?_)
        · refine lv_aload_n hx hb dX1_list_57 rfl (lv_at hl 0 rfl) ?_
          refine gM_loud hC hB dX1_list_58 ?_
          refine lv_aload_n hx hb dX1_list_61 rfl (lv_at hl 0 rfl) ?_
          refine gM_towers (v := nI T) hC hB (by rw [up2_ne _ _ (by omega)]; exact hT) dX1_list_62 ?_
          refine lv_iload_n hx hb dX1_list_65 rfl (lv_at hl 1 rfl) ?_
          refine sM_loud (T) hC hB rfl (by omega) hS hA dX1_list_66 (fun H locs hB hS => ?_)
          refine lv_aload_n hx hb dX1_list_67 rfl (lv_at hl 0 rfl) ?_
          refine gM_period hC hB dX1_list_68 ?_
          refine lv_aload_n hx hb dX1_list_71 rfl (lv_at hl 0 rfl) ?_
          refine gM_towers (v := nI T) hC hB (by rw [up2_ne _ _ (by omega), up2_ne _ _ (by omega)]; exact hT) dX1_list_72 ?_
          refine lv_iload_n hx hb dX1_list_75 rfl (lv_at hl 2 rfl) ?_
          refine sM_period (T) hC hB rfl (by omega) hS hA dX1_list_76 (fun H locs hB hS => ?_)
          refine lv_aload_n hx hb dX1_list_77 rfl (lv_at hl 0 rfl) ?_
          refine gM_beat hC hB dX1_list_78 ?_
          refine lv_aload_n hx hb dX1_list_81 rfl (lv_at hl 0 rfl) ?_
          refine gM_towers (v := nI T) hC hB (by rw [up2_ne _ _ (by omega), up2_ne _ _ (by omega), up2_ne _ _ (by omega)]; exact hT) dX1_list_82 ?_
          refine lv_iload_n hx hb dX1_list_85 rfl (lv_at hl 3 rfl) ?_
          refine sM_beat (T) hC hB rfl (by omega) hS hA dX1_list_86 (fun H locs hB hS => ?_)
          refine lv_aload_n hx hb dX1_list_87 rfl (lv_at hl 0 rfl) ?_
          refine lv_dup hx hb dX1_list_88 rfl ?_
          refine gM_towers (v := nI T) hC hB (by rw [up2_ne _ _ (by omega), up2_ne _ _ (by omega), up2_ne _ _ (by omega), up2_ne _ _ (by omega)]; exact hT) dX1_list_89 ?_
          refine lv_iconst (v := 1) hx hb dX1_list_92 (by decide) ?_
          refine xadd (v := nI (T + 1)) hC dX1_list_93 (nadd (i := T) (j := 1) rfl rfl) ?_
          refine pM_towers hC hB hS hA dX1_list_94 (fun H locs hB hS => ?_)
          refine lv_aload_n hx hb dX1_list_97 rfl (lv_at hl 0 rfl) ?_
          refine gM_towers (v := nI (T + 1)) hC hB (by rw [up2_eq]) dX1_list_98 ?_
          refine lv_iconst (v := 1) hx hb dX1_list_101 (by decide) ?_
          refine xsub (v := nI ((T + 1) - 1)) hC dX1_list_102 (pk_sub (a := T + 1) (b := 1) (by omega)) ?_
          exact wr_i hC hr hlocks mov_M (hB) hS dX1_list_103 (by rfl)
        · exact absurd c4 (by have h9 := (nI_eq (a := T) (b := 8) (by omega) (by omega)).mp c4; omega)
      · exfalso; revert c3; decide
set_option maxHeartbeats 4000000 in
set_option maxRecDepth 100000 in
theorem c_X1_list_f2 (l : Launch) (D : va_G) (cI : ClassId) (b : Nat → Nat) (N : bS) {T R : Nat} {w0 p0 b0 : Nat} (hI : MI N T R) (hT7 : T = 8) (hw1 : 1 ≤ w0) (hw9 : w0 ≤ 9) (hp2 : 2 ≤ p0) (hp20 : p0 ≤ 20) (hb0 : b0 < p0) : Wr l yX1_list cX1_list 4 (some .int) ({ frames := 1, cells := 0, slots := 0, locals := 22 } : Room) (MW D cI b N) (MW D cI b (up2 (up2 N 5 0 0) 5 0 2)) (inM b) [.ref (b 5), .int (nI w0), .int (nI p0), .int (nI b0)] (some (.int (0))) 0 0 := by
  refine Wr.of (by decide) (Nat.le_of_ble_eq_true rfl) ?_
  intro p e s m args below meth c ls hC hr hlocks hB hS hl
  have hx := hC.1
  have hb := hC.2.1
  have hA : ∀ q, (inM b) q → (inM b) q := fun _ h => h
  obtain ⟨hT, hR, hT8, hR6⟩ := id hI
  have hl : lv_has ls 4 [(0, .ref (b 5)), (1, .int (nI w0)), (2, .int (nI p0)), (3, .int (nI b0))] := hl
  refine lv_aload_n hx hb dX1_list_0 rfl (lv_at hl 0 rfl) ?_
  refine lv_iconst (v := 0) hx hb dX1_list_1 (by decide) ?_
  refine pM_thrown hC hB hS hA dX1_list_2 (fun H locs hB hS => ?_)
  refine lv_iload_n hx hb dX1_list_5 rfl (lv_at hl 1 rfl) ?_
  refine lv_iconst (v := 1) hx hb dX1_list_6 (by decide) ?_
  refine lv_bipush (v := 9) hx hb dX1_list_7 (by decide) ?_
  refine k_X1_isIn hC (c_X1_isIn_ok l (v := w0) (lo := 1) (hi := 9) (by omega) (by omega) (by omega)) mov_T trivial rfl ⟨rfl, rfl⟩ ⟨Nat.le_of_ble_eq_true rfl, Nat.le_of_ble_eq_true rfl⟩ ⟨Nat.zero_le _, Nat.zero_le _⟩ hl.1 rfl (Nat.le_of_ble_eq_true rfl) dX1_list_9 ?_
  refine lv_if_eq (tgt := 36) hx hb dX1_list_12 (by decide) (fun c1 => ?_) (fun c1 => ?_)
  · exfalso; revert c1; decide
  · refine lv_iload_n hx hb dX1_list_15 rfl (lv_at hl 2 rfl) ?_
    refine lv_iconst (v := 2) hx hb dX1_list_16 (by decide) ?_
    refine lv_bipush (v := 20) hx hb dX1_list_17 (by decide) ?_
    refine k_X1_isIn hC (c_X1_isIn_ok l (v := p0) (lo := 2) (hi := 20) (by omega) (by omega) (by omega)) mov_T trivial rfl ⟨rfl, rfl⟩ ⟨Nat.le_of_ble_eq_true rfl, Nat.le_of_ble_eq_true rfl⟩ ⟨Nat.zero_le _, Nat.zero_le _⟩ hl.1 rfl (Nat.le_of_ble_eq_true rfl) dX1_list_19 ?_
    refine lv_if_eq (tgt := 36) hx hb dX1_list_22 (by decide) (fun c2 => ?_) (fun c2 => ?_)
    · exfalso; revert c2; decide
    · refine lv_iload_n hx hb dX1_list_25 rfl (lv_at hl 3 rfl) ?_
      refine lv_iconst (v := 0) hx hb dX1_list_26 (by decide) ?_
      refine lv_iload_n hx hb dX1_list_27 rfl (lv_at hl 2 rfl) ?_
      refine lv_iconst (v := 1) hx hb dX1_list_28 (by decide) ?_
      refine xsub (v := nI (p0 - 1)) hC dX1_list_29 (pk_sub (a := p0) (b := 1) (by omega)) ?_
      refine k_X1_isIn hC (c_X1_isIn_ok l (v := b0) (lo := 0) (hi := p0 - 1) (by omega) (by omega) (by omega)) mov_T trivial rfl ⟨rfl, rfl⟩ ⟨Nat.le_of_ble_eq_true rfl, Nat.le_of_ble_eq_true rfl⟩ ⟨Nat.zero_le _, Nat.zero_le _⟩ hl.1 rfl (Nat.le_of_ble_eq_true rfl) dX1_list_30 ?_
      refine lv_if_ne (tgt := 42) hx hb dX1_list_33 (by decide) (fun c3 => ?_) (fun c3 => ?_)
      · refine lv_aload_n hx hb dX1_list_42 rfl (lv_at hl 0 rfl) ?_
        refine gM_towers (v := nI T) hC hB (by rw [up2_ne _ _ (by omega)]; exact hT) dX1_list_43 ?_
        refine lv_bipush (v := 8) hx hb dX1_list_46 (by decide) ?_
        refine lv_icmp_ne (tgt := 57) hx hb dX1_list_48 (by decide) (fun c4 => ?_) (fun c4 => ?_)
        · exfalso; exact c4 (by rw [hT7]; rfl)
        · refine lv_aload_n hx hb dX1_list_51 rfl (lv_at hl 0 rfl) ?_
          refine lv_iconst (v := 2) hx hb dX1_list_52 (by decide) ?_
          refine kw_X1_fail hC (c_X1_fail l D cI b (up2 N 5 0 0) (2)) hB rfl ⟨rfl, rfl⟩ ⟨Nat.le_of_ble_eq_true rfl, Nat.le_of_ble_eq_true rfl⟩ ⟨Nat.le_of_ble_eq_true rfl, Nat.le_of_ble_eq_true rfl⟩ hS hA hl.1 rfl (Nat.le_of_ble_eq_true rfl) dX1_list_53 (fun H locs hB hS => ?_)
          exact wr_i hC hr hlocks mov_M (hB) hS dX1_list_56 (by rfl)
      · exfalso; revert c3; decide
set_option maxHeartbeats 4000000 in
set_option maxRecDepth 100000 in
theorem c_X1_list_fa (l : Launch) (D : va_G) (cI : ClassId) (b : Nat → Nat) (N : bS) {T R : Nat} (x y z : Int32) (hI : MI N T R) (hx0 : isI x 1 9 = 0) : Wr l yX1_list cX1_list 4 (some .int) ({ frames := 1, cells := 0, slots := 0, locals := 22 } : Room) (MW D cI b N) (MW D cI b (up2 (up2 N 5 0 0) 5 0 1)) (inM b) [.ref (b 5), .int (x), .int (y), .int (z)] (some (.int (0))) 0 0 := by
  refine Wr.of (by decide) (Nat.le_of_ble_eq_true rfl) ?_
  intro p e s m args below meth c ls hC hr hlocks hB hS hl
  have hx := hC.1
  have hb := hC.2.1
  have hA : ∀ q, (inM b) q → (inM b) q := fun _ h => h
  obtain ⟨hT, hR, hT8, hR6⟩ := id hI
  have hl : lv_has ls 4 [(0, .ref (b 5)), (1, .int (x)), (2, .int (y)), (3, .int (z))] := hl
  refine lv_aload_n hx hb dX1_list_0 rfl (lv_at hl 0 rfl) ?_
  refine lv_iconst (v := 0) hx hb dX1_list_1 (by decide) ?_
  refine pM_thrown hC hB hS hA dX1_list_2 (fun H locs hB hS => ?_)
  refine lv_iload_n hx hb dX1_list_5 rfl (lv_at hl 1 rfl) ?_
  refine lv_iconst (v := 1) hx hb dX1_list_6 (by decide) ?_
  refine lv_bipush (v := 9) hx hb dX1_list_7 (by decide) ?_
  refine k_X1_isIn hC (c_X1_isIn_no l (x) (1) (9) hx0) mov_T trivial rfl ⟨rfl, rfl⟩ ⟨Nat.le_of_ble_eq_true rfl, Nat.le_of_ble_eq_true rfl⟩ ⟨Nat.zero_le _, Nat.zero_le _⟩ hl.1 rfl (Nat.le_of_ble_eq_true rfl) dX1_list_9 ?_
  refine lv_if_eq (tgt := 36) hx hb dX1_list_12 (by decide) (fun c1 => ?_) (fun c1 => ?_)
  · refine lv_aload_n hx hb dX1_list_36 rfl (lv_at hl 0 rfl) ?_
    refine lv_iconst (v := 1) hx hb dX1_list_37 (by decide) ?_
    refine kw_X1_fail hC (c_X1_fail l D cI b (up2 N 5 0 0) (1)) hB rfl ⟨rfl, rfl⟩ ⟨Nat.le_of_ble_eq_true rfl, Nat.le_of_ble_eq_true rfl⟩ ⟨Nat.le_of_ble_eq_true rfl, Nat.le_of_ble_eq_true rfl⟩ hS hA hl.1 rfl (Nat.le_of_ble_eq_true rfl) dX1_list_38 (fun H locs hB hS => ?_)
    exact wr_i hC hr hlocks mov_M (hB) hS dX1_list_41 (by rfl)
  · exfalso; revert c1; decide
set_option maxHeartbeats 4000000 in
set_option maxRecDepth 100000 in
theorem c_X1_list_fb (l : Launch) (D : va_G) (cI : ClassId) (b : Nat → Nat) (N : bS) {T R : Nat} {w0 : Nat} (y z : Int32) (hI : MI N T R) (hw1 : 1 ≤ w0) (hw9 : w0 ≤ 9) (hy0 : isI y 2 20 = 0) : Wr l yX1_list cX1_list 4 (some .int) ({ frames := 1, cells := 0, slots := 0, locals := 22 } : Room) (MW D cI b N) (MW D cI b (up2 (up2 N 5 0 0) 5 0 1)) (inM b) [.ref (b 5), .int (nI w0), .int (y), .int (z)] (some (.int (0))) 0 0 := by
  refine Wr.of (by decide) (Nat.le_of_ble_eq_true rfl) ?_
  intro p e s m args below meth c ls hC hr hlocks hB hS hl
  have hx := hC.1
  have hb := hC.2.1
  have hA : ∀ q, (inM b) q → (inM b) q := fun _ h => h
  obtain ⟨hT, hR, hT8, hR6⟩ := id hI
  have hl : lv_has ls 4 [(0, .ref (b 5)), (1, .int (nI w0)), (2, .int (y)), (3, .int (z))] := hl
  refine lv_aload_n hx hb dX1_list_0 rfl (lv_at hl 0 rfl) ?_
  refine lv_iconst (v := 0) hx hb dX1_list_1 (by decide) ?_
  refine pM_thrown hC hB hS hA dX1_list_2 (fun H locs hB hS => ?_)
  refine lv_iload_n hx hb dX1_list_5 rfl (lv_at hl 1 rfl) ?_
  refine lv_iconst (v := 1) hx hb dX1_list_6 (by decide) ?_
  refine lv_bipush (v := 9) hx hb dX1_list_7 (by decide) ?_
  refine k_X1_isIn hC (c_X1_isIn_ok l (v := w0) (lo := 1) (hi := 9) (by omega) (by omega) (by omega)) mov_T trivial rfl ⟨rfl, rfl⟩ ⟨Nat.le_of_ble_eq_true rfl, Nat.le_of_ble_eq_true rfl⟩ ⟨Nat.zero_le _, Nat.zero_le _⟩ hl.1 rfl (Nat.le_of_ble_eq_true rfl) dX1_list_9 ?_
  refine lv_if_eq (tgt := 36) hx hb dX1_list_12 (by decide) (fun c1 => ?_) (fun c1 => ?_)
  · exfalso; revert c1; decide
  · refine lv_iload_n hx hb dX1_list_15 rfl (lv_at hl 2 rfl) ?_
    refine lv_iconst (v := 2) hx hb dX1_list_16 (by decide) ?_
    refine lv_bipush (v := 20) hx hb dX1_list_17 (by decide) ?_
    refine k_X1_isIn hC (c_X1_isIn_no l (y) (2) (20) hy0) mov_T trivial rfl ⟨rfl, rfl⟩ ⟨Nat.le_of_ble_eq_true rfl, Nat.le_of_ble_eq_true rfl⟩ ⟨Nat.zero_le _, Nat.zero_le _⟩ hl.1 rfl (Nat.le_of_ble_eq_true rfl) dX1_list_19 ?_
    refine lv_if_eq (tgt := 36) hx hb dX1_list_22 (by decide) (fun c2 => ?_) (fun c2 => ?_)
    · refine lv_aload_n hx hb dX1_list_36 rfl (lv_at hl 0 rfl) ?_
      refine lv_iconst (v := 1) hx hb dX1_list_37 (by decide) ?_
      refine kw_X1_fail hC (c_X1_fail l D cI b (up2 N 5 0 0) (1)) hB rfl ⟨rfl, rfl⟩ ⟨Nat.le_of_ble_eq_true rfl, Nat.le_of_ble_eq_true rfl⟩ ⟨Nat.le_of_ble_eq_true rfl, Nat.le_of_ble_eq_true rfl⟩ hS hA hl.1 rfl (Nat.le_of_ble_eq_true rfl) dX1_list_38 (fun H locs hB hS => ?_)
      exact wr_i hC hr hlocks mov_M (hB) hS dX1_list_41 (by rfl)
    · exfalso; revert c2; decide
set_option maxHeartbeats 4000000 in
set_option maxRecDepth 100000 in
theorem c_X1_list_fc (l : Launch) (D : va_G) (cI : ClassId) (b : Nat → Nat) (N : bS) {T R : Nat} {w0 p0 : Nat} (z : Int32) (hI : MI N T R) (hw1 : 1 ≤ w0) (hw9 : w0 ≤ 9) (hp2 : 2 ≤ p0) (hp20 : p0 ≤ 20) (hz0 : isI z 0 (nI (p0 - 1)) = 0) : Wr l yX1_list cX1_list 4 (some .int) ({ frames := 1, cells := 0, slots := 0, locals := 22 } : Room) (MW D cI b N) (MW D cI b (up2 (up2 N 5 0 0) 5 0 1)) (inM b) [.ref (b 5), .int (nI w0), .int (nI p0), .int (z)] (some (.int (0))) 0 0 := by
  refine Wr.of (by decide) (Nat.le_of_ble_eq_true rfl) ?_
  intro p e s m args below meth c ls hC hr hlocks hB hS hl
  have hx := hC.1
  have hb := hC.2.1
  have hA : ∀ q, (inM b) q → (inM b) q := fun _ h => h
  obtain ⟨hT, hR, hT8, hR6⟩ := id hI
  have hl : lv_has ls 4 [(0, .ref (b 5)), (1, .int (nI w0)), (2, .int (nI p0)), (3, .int (z))] := hl
  refine lv_aload_n hx hb dX1_list_0 rfl (lv_at hl 0 rfl) ?_
  refine lv_iconst (v := 0) hx hb dX1_list_1 (by decide) ?_
  refine pM_thrown hC hB hS hA dX1_list_2 (fun H locs hB hS => ?_)
  refine lv_iload_n hx hb dX1_list_5 rfl (lv_at hl 1 rfl) ?_
  refine lv_iconst (v := 1) hx hb dX1_list_6 (by decide) ?_
  refine lv_bipush (v := 9) hx hb dX1_list_7 (by decide) ?_
  refine k_X1_isIn hC (c_X1_isIn_ok l (v := w0) (lo := 1) (hi := 9) (by omega) (by omega) (by omega)) mov_T trivial rfl ⟨rfl, rfl⟩ ⟨Nat.le_of_ble_eq_true rfl, Nat.le_of_ble_eq_true rfl⟩ ⟨Nat.zero_le _, Nat.zero_le _⟩ hl.1 rfl (Nat.le_of_ble_eq_true rfl) dX1_list_9 ?_
  refine lv_if_eq (tgt := 36) hx hb dX1_list_12 (by decide) (fun c1 => ?_) (fun c1 => ?_)
  · exfalso; revert c1; decide
  · refine lv_iload_n hx hb dX1_list_15 rfl (lv_at hl 2 rfl) ?_
    refine lv_iconst (v := 2) hx hb dX1_list_16 (by decide) ?_
    refine lv_bipush (v := 20) hx hb dX1_list_17 (by decide) ?_
    refine k_X1_isIn hC (c_X1_isIn_ok l (v := p0) (lo := 2) (hi := 20) (by omega) (by omega) (by omega)) mov_T trivial rfl ⟨rfl, rfl⟩ ⟨Nat.le_of_ble_eq_true rfl, Nat.le_of_ble_eq_true rfl⟩ ⟨Nat.zero_le _, Nat.zero_le _⟩ hl.1 rfl (Nat.le_of_ble_eq_true rfl) dX1_list_19 ?_
    refine lv_if_eq (tgt := 36) hx hb dX1_list_22 (by decide) (fun c2 => ?_) (fun c2 => ?_)
    · exfalso; revert c2; decide
    · refine lv_iload_n hx hb dX1_list_25 rfl (lv_at hl 3 rfl) ?_
      refine lv_iconst (v := 0) hx hb dX1_list_26 (by decide) ?_
      refine lv_iload_n hx hb dX1_list_27 rfl (lv_at hl 2 rfl) ?_
      refine lv_iconst (v := 1) hx hb dX1_list_28 (by decide) ?_
      refine xsub (v := nI (p0 - 1)) hC dX1_list_29 (pk_sub (a := p0) (b := 1) (by omega)) ?_
      refine k_X1_isIn hC (c_X1_isIn_no l (z) (0) (nI (p0 - 1)) hz0) mov_T trivial rfl ⟨rfl, rfl⟩ ⟨Nat.le_of_ble_eq_true rfl, Nat.le_of_ble_eq_true rfl⟩ ⟨Nat.zero_le _, Nat.zero_le _⟩ hl.1 rfl (Nat.le_of_ble_eq_true rfl) dX1_list_30 ?_
      refine lv_if_ne (tgt := 42) hx hb dX1_list_33 (by decide) (fun c3 => ?_) (fun c3 => ?_)
      · exfalso; revert c3; decide
      · refine lv_aload_n hx hb dX1_list_36 rfl (lv_at hl 0 rfl) ?_
        refine lv_iconst (v := 1) hx hb dX1_list_37 (by decide) ?_
        refine kw_X1_fail hC (c_X1_fail l D cI b (up2 N 5 0 0) (1)) hB rfl ⟨rfl, rfl⟩ ⟨Nat.le_of_ble_eq_true rfl, Nat.le_of_ble_eq_true rfl⟩ ⟨Nat.le_of_ble_eq_true rfl, Nat.le_of_ble_eq_true rfl⟩ hS hA hl.1 rfl (Nat.le_of_ble_eq_true rfl) dX1_list_38 (fun H locs hB hS => ?_)
        exact wr_i hC hr hlocks mov_M (hB) hS dX1_list_41 (by rfl)
set_option maxHeartbeats 4000000 in
set_option maxRecDepth 100000 in
theorem c_X1_priceIn_ok (l : Launch) (D : va_G) (cI : ClassId) (b : Nat → Nat) (N : bS) {T R : Nat} {t k : Nat} (hI : MI N T R) (hP : mP N T) (ht : t < T) (hk1 : 1 ≤ k) (hk9 : k ≤ 60) : Wr l yX1_priceIn cX1_priceIn 4 (some .int) ({ frames := 6, cells := 0, slots := 0, locals := 137 } : Room) (MW D cI b N) (MW D cI b (bk (mPa (kp (up2 N 5 0 0)) T R k))) (inM b) [.ref (b 5), .int (nI t), .int (nI k)] (some (.int (mPr (mPa (kp (up2 N 5 0 0)) T R k) R t))) 0 0 := by
  refine Wr.of (by decide) (Nat.le_of_ble_eq_true rfl) ?_
  intro p e s m args below meth c ls hC hr hlocks hB hS hl
  have hx := hC.1
  have hb := hC.2.1
  have hA : ∀ q, (inM b) q → (inM b) q := fun _ h => h
  obtain ⟨hT, hR, hT8, hR6⟩ := id hI
  have hl : lv_has ls 4 [(0, .ref (b 5)), (1, .int (nI t)), (2, .int (nI k))] := hl
  refine lv_aload_n hx hb dX1_priceIn_0 rfl (lv_at hl 0 rfl) ?_
  refine lv_iconst (v := 0) hx hb dX1_priceIn_1 (by decide) ?_
  refine pM_thrown hC hB hS hA dX1_priceIn_2 (fun H locs hB hS => ?_)
  refine lv_aload_n hx hb dX1_priceIn_5 rfl (lv_at hl 0 rfl) ?_
  refine lv_iload_n hx hb dX1_priceIn_6 rfl (lv_at hl 1 rfl) ?_
  refine k_X1_isTower hC (c_X1_isTower_ok l D cI b (up2 N 5 0 0) (t := t) (MI_5 (hI)) (by omega)) hB rfl ⟨rfl, rfl⟩ ⟨Nat.le_of_ble_eq_true rfl, Nat.le_of_ble_eq_true rfl⟩ ⟨Nat.zero_le _, Nat.zero_le _⟩ hl.1 rfl (Nat.le_of_ble_eq_true rfl) dX1_priceIn_7 ?_
  refine lv_if_ne (tgt := 19) hx hb dX1_priceIn_10 (by decide) (fun c1 => ?_) (fun c1 => ?_)
  · refine lv_iload_n hx hb dX1_priceIn_19 rfl (lv_at hl 2 rfl) ?_
    refine lv_iconst (v := 1) hx hb dX1_priceIn_20 (by decide) ?_
    refine lv_bipush (v := 60) hx hb dX1_priceIn_21 (by decide) ?_
    refine k_X1_isIn hC (c_X1_isIn_ok l (v := k) (lo := 1) (hi := 60) (by omega) (by omega) (by omega)) mov_T trivial rfl ⟨rfl, rfl⟩ ⟨Nat.le_of_ble_eq_true rfl, Nat.le_of_ble_eq_true rfl⟩ ⟨Nat.zero_le _, Nat.zero_le _⟩ hl.1 rfl (Nat.le_of_ble_eq_true rfl) dX1_priceIn_23 ?_
    refine lv_if_ne (tgt := 35) hx hb dX1_priceIn_26 (by decide) (fun c2 => ?_) (fun c2 => ?_)
    · refine lv_aload_n hx hb dX1_priceIn_35 rfl (lv_at hl 0 rfl) ?_
      refine kw_X1_keep hC (c_X1_keep l D cI b (up2 N 5 0 0)) hB rfl ⟨rfl, rfl⟩ ⟨Nat.le_of_ble_eq_true rfl, Nat.le_of_ble_eq_true rfl⟩ ⟨Nat.le_of_ble_eq_true rfl, Nat.le_of_ble_eq_true rfl⟩ hS hA hl.1 rfl (Nat.le_of_ble_eq_true rfl) dX1_priceIn_36 (fun H locs hB hS => ?_)
      refine lv_aload_n hx hb dX1_priceIn_39 rfl (lv_at hl 0 rfl) ?_
      refine lv_iload_n hx hb dX1_priceIn_40 rfl (lv_at hl 2 rfl) ?_
      refine kw_X1_secondsOn hC (c_X1_secondsOn l D cI b (kp (up2 N 5 0 0)) (MI_kp (MI_5 (hI))) (mP_kp (mP_5 (hP))) (k := k) (by omega)) hB rfl ⟨rfl, rfl⟩ ⟨Nat.le_of_ble_eq_true rfl, Nat.le_of_ble_eq_true rfl⟩ ⟨Nat.le_of_ble_eq_true rfl, Nat.le_of_ble_eq_true rfl⟩ hS hA hl.1 rfl (Nat.le_of_ble_eq_true rfl) dX1_priceIn_41 (fun H locs hB hS => ?_)
      refine lv_pop hx hb dX1_priceIn_44 rfl ?_
      refine lv_aload_n hx hb dX1_priceIn_45 rfl (lv_at hl 0 rfl) ?_
      refine lv_iload_n hx hb dX1_priceIn_46 rfl (lv_at hl 1 rfl) ?_
      refine k_X1_price hC (c_X1_price l D cI b (mPa (kp (up2 N 5 0 0)) T R k) (t := t) (MI_pa (MI_kp (MI_5 (hI)))) (by omega)) hB rfl ⟨rfl, rfl⟩ ⟨Nat.le_of_ble_eq_true rfl, Nat.le_of_ble_eq_true rfl⟩ ⟨Nat.zero_le _, Nat.zero_le _⟩ hl.1 rfl (Nat.le_of_ble_eq_true rfl) dX1_priceIn_47 ?_
      refine lv_istore_n (lv' := [(3, .int (mPr (mPa (kp (up2 N 5 0 0)) T R k) R t)), (0, .ref (b 5)), (1, .int (nI t)), (2, .int (nI k))]) hx hb dX1_priceIn_50 rfl hl (by decide) rfl (fun ls hl => ?_)
      refine lv_aload_n hx hb dX1_priceIn_51 rfl (lv_at hl 1 rfl) ?_
      refine kw_X1_bringBack hC (c_X1_bringBack l D cI b (mPa (kp (up2 N 5 0 0)) T R k)) hB rfl ⟨rfl, rfl⟩ ⟨Nat.le_of_ble_eq_true rfl, Nat.le_of_ble_eq_true rfl⟩ ⟨Nat.le_of_ble_eq_true rfl, Nat.le_of_ble_eq_true rfl⟩ hS hA hl.1 rfl (Nat.le_of_ble_eq_true rfl) dX1_priceIn_52 (fun H locs hB hS => ?_)
      refine lv_iload_n hx hb dX1_priceIn_55 rfl (lv_at hl 0 rfl) ?_
      exact wr_i hC hr hlocks mov_M (hB) hS dX1_priceIn_56 (by rfl)
    · exfalso; revert c2; decide
  · exfalso; revert c1; decide
set_option maxHeartbeats 4000000 in
set_option maxRecDepth 100000 in
theorem c_X1_priceIn_f (l : Launch) (D : va_G) (cI : ClassId) (b : Nat → Nat) (N : bS) {T R : Nat} (x y : Int32) (hI : MI N T R) (hx0 : isI x 0 (nI T - 1) = 0) : Wr l yX1_priceIn cX1_priceIn 4 (some .int) ({ frames := 6, cells := 0, slots := 0, locals := 137 } : Room) (MW D cI b N) (MW D cI b (up2 (up2 N 5 0 0) 5 0 1)) (inM b) [.ref (b 5), .int (x), .int (y)] (some (.int (0))) 0 0 := by
  refine Wr.of (by decide) (Nat.le_of_ble_eq_true rfl) ?_
  intro p e s m args below meth c ls hC hr hlocks hB hS hl
  have hx := hC.1
  have hb := hC.2.1
  have hA : ∀ q, (inM b) q → (inM b) q := fun _ h => h
  obtain ⟨hT, hR, hT8, hR6⟩ := id hI
  have hl : lv_has ls 4 [(0, .ref (b 5)), (1, .int (x)), (2, .int (y))] := hl
  refine lv_aload_n hx hb dX1_priceIn_0 rfl (lv_at hl 0 rfl) ?_
  refine lv_iconst (v := 0) hx hb dX1_priceIn_1 (by decide) ?_
  refine pM_thrown hC hB hS hA dX1_priceIn_2 (fun H locs hB hS => ?_)
  refine lv_aload_n hx hb dX1_priceIn_5 rfl (lv_at hl 0 rfl) ?_
  refine lv_iload_n hx hb dX1_priceIn_6 rfl (lv_at hl 1 rfl) ?_
  refine k_X1_isTower hC (c_X1_isTower_no l D cI b (up2 N 5 0 0) (x) (MI_5 (hI)) hx0) hB rfl ⟨rfl, rfl⟩ ⟨Nat.le_of_ble_eq_true rfl, Nat.le_of_ble_eq_true rfl⟩ ⟨Nat.zero_le _, Nat.zero_le _⟩ hl.1 rfl (Nat.le_of_ble_eq_true rfl) dX1_priceIn_7 ?_
  refine lv_if_ne (tgt := 19) hx hb dX1_priceIn_10 (by decide) (fun c1 => ?_) (fun c1 => ?_)
  · exfalso; revert c1; decide
  · refine lv_aload_n hx hb dX1_priceIn_13 rfl (lv_at hl 0 rfl) ?_
    refine lv_iconst (v := 1) hx hb dX1_priceIn_14 (by decide) ?_
    refine kw_X1_fail hC (c_X1_fail l D cI b (up2 N 5 0 0) (1)) hB rfl ⟨rfl, rfl⟩ ⟨Nat.le_of_ble_eq_true rfl, Nat.le_of_ble_eq_true rfl⟩ ⟨Nat.le_of_ble_eq_true rfl, Nat.le_of_ble_eq_true rfl⟩ hS hA hl.1 rfl (Nat.le_of_ble_eq_true rfl) dX1_priceIn_15 (fun H locs hB hS => ?_)
    exact wr_i hC hr hlocks mov_M (hB) hS dX1_priceIn_18 (by rfl)
set_option maxHeartbeats 4000000 in
set_option maxRecDepth 100000 in
theorem c_X1_priceIn_g (l : Launch) (D : va_G) (cI : ClassId) (b : Nat → Nat) (N : bS) {T R : Nat} {t : Nat} (y : Int32) (hI : MI N T R) (ht : t < T) (hy0 : isI y 1 60 = 0) : Wr l yX1_priceIn cX1_priceIn 4 (some .int) ({ frames := 6, cells := 0, slots := 0, locals := 137 } : Room) (MW D cI b N) (MW D cI b (up2 (up2 N 5 0 0) 5 0 2)) (inM b) [.ref (b 5), .int (nI t), .int (y)] (some (.int (0))) 0 0 := by
  refine Wr.of (by decide) (Nat.le_of_ble_eq_true rfl) ?_
  intro p e s m args below meth c ls hC hr hlocks hB hS hl
  have hx := hC.1
  have hb := hC.2.1
  have hA : ∀ q, (inM b) q → (inM b) q := fun _ h => h
  obtain ⟨hT, hR, hT8, hR6⟩ := id hI
  have hl : lv_has ls 4 [(0, .ref (b 5)), (1, .int (nI t)), (2, .int (y))] := hl
  refine lv_aload_n hx hb dX1_priceIn_0 rfl (lv_at hl 0 rfl) ?_
  refine lv_iconst (v := 0) hx hb dX1_priceIn_1 (by decide) ?_
  refine pM_thrown hC hB hS hA dX1_priceIn_2 (fun H locs hB hS => ?_)
  refine lv_aload_n hx hb dX1_priceIn_5 rfl (lv_at hl 0 rfl) ?_
  refine lv_iload_n hx hb dX1_priceIn_6 rfl (lv_at hl 1 rfl) ?_
  refine k_X1_isTower hC (c_X1_isTower_ok l D cI b (up2 N 5 0 0) (t := t) (MI_5 (hI)) (by omega)) hB rfl ⟨rfl, rfl⟩ ⟨Nat.le_of_ble_eq_true rfl, Nat.le_of_ble_eq_true rfl⟩ ⟨Nat.zero_le _, Nat.zero_le _⟩ hl.1 rfl (Nat.le_of_ble_eq_true rfl) dX1_priceIn_7 ?_
  refine lv_if_ne (tgt := 19) hx hb dX1_priceIn_10 (by decide) (fun c1 => ?_) (fun c1 => ?_)
  · refine lv_iload_n hx hb dX1_priceIn_19 rfl (lv_at hl 2 rfl) ?_
    refine lv_iconst (v := 1) hx hb dX1_priceIn_20 (by decide) ?_
    refine lv_bipush (v := 60) hx hb dX1_priceIn_21 (by decide) ?_
    refine k_X1_isIn hC (c_X1_isIn_no l (y) (1) (60) hy0) mov_T trivial rfl ⟨rfl, rfl⟩ ⟨Nat.le_of_ble_eq_true rfl, Nat.le_of_ble_eq_true rfl⟩ ⟨Nat.zero_le _, Nat.zero_le _⟩ hl.1 rfl (Nat.le_of_ble_eq_true rfl) dX1_priceIn_23 ?_
    refine lv_if_ne (tgt := 35) hx hb dX1_priceIn_26 (by decide) (fun c2 => ?_) (fun c2 => ?_)
    · exfalso; revert c2; decide
    · refine lv_aload_n hx hb dX1_priceIn_29 rfl (lv_at hl 0 rfl) ?_
      refine lv_iconst (v := 2) hx hb dX1_priceIn_30 (by decide) ?_
      refine kw_X1_fail hC (c_X1_fail l D cI b (up2 N 5 0 0) (2)) hB rfl ⟨rfl, rfl⟩ ⟨Nat.le_of_ble_eq_true rfl, Nat.le_of_ble_eq_true rfl⟩ ⟨Nat.le_of_ble_eq_true rfl, Nat.le_of_ble_eq_true rfl⟩ hS hA hl.1 rfl (Nat.le_of_ble_eq_true rfl) dX1_priceIn_31 (fun H locs hB hS => ?_)
      exact wr_i hC hr hlocks mov_M (hB) hS dX1_priceIn_34 (by rfl)
  · exfalso; revert c1; decide
set_option maxHeartbeats 4000000 in
set_option maxRecDepth 100000 in
theorem c_X1_worthIn_ok (l : Launch) (D : va_G) (cI : ClassId) (b : Nat → Nat) (N : bS) {T R : Nat} {r k : Nat} (hI : MI N T R) (hP : mP N T) (hr9 : r < R) (hk1 : 1 ≤ k) (hk9 : k ≤ 60) : Wr l yX1_worthIn cX1_worthIn 4 (some .int) ({ frames := 6, cells := 0, slots := 0, locals := 137 } : Room) (MW D cI b N) (MW D cI b (bk (mPa (kp (up2 N 5 0 0)) T R k))) (inM b) [.ref (b 5), .int (nI r), .int (nI k)] (some (.int (mWo (mPa (kp (up2 N 5 0 0)) T R k) T R r))) 0 0 := by
  refine Wr.of (by decide) (Nat.le_of_ble_eq_true rfl) ?_
  intro p e s m args below meth c ls hC hr hlocks hB hS hl
  have hx := hC.1
  have hb := hC.2.1
  have hA : ∀ q, (inM b) q → (inM b) q := fun _ h => h
  obtain ⟨hT, hR, hT8, hR6⟩ := id hI
  have hl : lv_has ls 4 [(0, .ref (b 5)), (1, .int (nI r)), (2, .int (nI k))] := hl
  refine lv_aload_n hx hb dX1_worthIn_0 rfl (lv_at hl 0 rfl) ?_
  refine lv_iconst (v := 0) hx hb dX1_worthIn_1 (by decide) ?_
  refine pM_thrown hC hB hS hA dX1_worthIn_2 (fun H locs hB hS => ?_)
  refine lv_aload_n hx hb dX1_worthIn_5 rfl (lv_at hl 0 rfl) ?_
  refine lv_iload_n hx hb dX1_worthIn_6 rfl (lv_at hl 1 rfl) ?_
  refine k_X1_isTrader hC (c_X1_isTrader_ok l D cI b (up2 N 5 0 0) (t := r) (MI_5 (hI)) (by omega)) hB rfl ⟨rfl, rfl⟩ ⟨Nat.le_of_ble_eq_true rfl, Nat.le_of_ble_eq_true rfl⟩ ⟨Nat.zero_le _, Nat.zero_le _⟩ hl.1 rfl (Nat.le_of_ble_eq_true rfl) dX1_worthIn_7 ?_
  refine lv_if_ne (tgt := 19) hx hb dX1_worthIn_10 (by decide) (fun c1 => ?_) (fun c1 => ?_)
  · refine lv_iload_n hx hb dX1_worthIn_19 rfl (lv_at hl 2 rfl) ?_
    refine lv_iconst (v := 1) hx hb dX1_worthIn_20 (by decide) ?_
    refine lv_bipush (v := 60) hx hb dX1_worthIn_21 (by decide) ?_
    refine k_X1_isIn hC (c_X1_isIn_ok l (v := k) (lo := 1) (hi := 60) (by omega) (by omega) (by omega)) mov_T trivial rfl ⟨rfl, rfl⟩ ⟨Nat.le_of_ble_eq_true rfl, Nat.le_of_ble_eq_true rfl⟩ ⟨Nat.zero_le _, Nat.zero_le _⟩ hl.1 rfl (Nat.le_of_ble_eq_true rfl) dX1_worthIn_23 ?_
    refine lv_if_ne (tgt := 35) hx hb dX1_worthIn_26 (by decide) (fun c2 => ?_) (fun c2 => ?_)
    · refine lv_aload_n hx hb dX1_worthIn_35 rfl (lv_at hl 0 rfl) ?_
      refine kw_X1_keep hC (c_X1_keep l D cI b (up2 N 5 0 0)) hB rfl ⟨rfl, rfl⟩ ⟨Nat.le_of_ble_eq_true rfl, Nat.le_of_ble_eq_true rfl⟩ ⟨Nat.le_of_ble_eq_true rfl, Nat.le_of_ble_eq_true rfl⟩ hS hA hl.1 rfl (Nat.le_of_ble_eq_true rfl) dX1_worthIn_36 (fun H locs hB hS => ?_)
      refine lv_aload_n hx hb dX1_worthIn_39 rfl (lv_at hl 0 rfl) ?_
      refine lv_iload_n hx hb dX1_worthIn_40 rfl (lv_at hl 2 rfl) ?_
      refine kw_X1_secondsOn hC (c_X1_secondsOn l D cI b (kp (up2 N 5 0 0)) (MI_kp (MI_5 (hI))) (mP_kp (mP_5 (hP))) (k := k) (by omega)) hB rfl ⟨rfl, rfl⟩ ⟨Nat.le_of_ble_eq_true rfl, Nat.le_of_ble_eq_true rfl⟩ ⟨Nat.le_of_ble_eq_true rfl, Nat.le_of_ble_eq_true rfl⟩ hS hA hl.1 rfl (Nat.le_of_ble_eq_true rfl) dX1_worthIn_41 (fun H locs hB hS => ?_)
      refine lv_pop hx hb dX1_worthIn_44 rfl ?_
      refine lv_aload_n hx hb dX1_worthIn_45 rfl (lv_at hl 0 rfl) ?_
      refine lv_iload_n hx hb dX1_worthIn_46 rfl (lv_at hl 1 rfl) ?_
      refine k_X1_worth hC (c_X1_worth l D cI b (mPa (kp (up2 N 5 0 0)) T R k) (r := r) (MI_pa (MI_kp (MI_5 (hI)))) (by omega)) hB rfl ⟨rfl, rfl⟩ ⟨Nat.le_of_ble_eq_true rfl, Nat.le_of_ble_eq_true rfl⟩ ⟨Nat.zero_le _, Nat.zero_le _⟩ hl.1 rfl (Nat.le_of_ble_eq_true rfl) dX1_worthIn_47 ?_
      refine lv_istore_n (lv' := [(3, .int (mWo (mPa (kp (up2 N 5 0 0)) T R k) T R r)), (0, .ref (b 5)), (1, .int (nI r)), (2, .int (nI k))]) hx hb dX1_worthIn_50 rfl hl (by decide) rfl (fun ls hl => ?_)
      refine lv_aload_n hx hb dX1_worthIn_51 rfl (lv_at hl 1 rfl) ?_
      refine kw_X1_bringBack hC (c_X1_bringBack l D cI b (mPa (kp (up2 N 5 0 0)) T R k)) hB rfl ⟨rfl, rfl⟩ ⟨Nat.le_of_ble_eq_true rfl, Nat.le_of_ble_eq_true rfl⟩ ⟨Nat.le_of_ble_eq_true rfl, Nat.le_of_ble_eq_true rfl⟩ hS hA hl.1 rfl (Nat.le_of_ble_eq_true rfl) dX1_worthIn_52 (fun H locs hB hS => ?_)
      refine lv_iload_n hx hb dX1_worthIn_55 rfl (lv_at hl 0 rfl) ?_
      exact wr_i hC hr hlocks mov_M (hB) hS dX1_worthIn_56 (by rfl)
    · exfalso; revert c2; decide
  · exfalso; revert c1; decide
set_option maxHeartbeats 4000000 in
set_option maxRecDepth 100000 in
theorem c_X1_worthIn_f (l : Launch) (D : va_G) (cI : ClassId) (b : Nat → Nat) (N : bS) {T R : Nat} (x y : Int32) (hI : MI N T R) (hx0 : isI x 0 (nI R - 1) = 0) : Wr l yX1_worthIn cX1_worthIn 4 (some .int) ({ frames := 6, cells := 0, slots := 0, locals := 137 } : Room) (MW D cI b N) (MW D cI b (up2 (up2 N 5 0 0) 5 0 1)) (inM b) [.ref (b 5), .int (x), .int (y)] (some (.int (0))) 0 0 := by
  refine Wr.of (by decide) (Nat.le_of_ble_eq_true rfl) ?_
  intro p e s m args below meth c ls hC hr hlocks hB hS hl
  have hx := hC.1
  have hb := hC.2.1
  have hA : ∀ q, (inM b) q → (inM b) q := fun _ h => h
  obtain ⟨hT, hR, hT8, hR6⟩ := id hI
  have hl : lv_has ls 4 [(0, .ref (b 5)), (1, .int (x)), (2, .int (y))] := hl
  refine lv_aload_n hx hb dX1_worthIn_0 rfl (lv_at hl 0 rfl) ?_
  refine lv_iconst (v := 0) hx hb dX1_worthIn_1 (by decide) ?_
  refine pM_thrown hC hB hS hA dX1_worthIn_2 (fun H locs hB hS => ?_)
  refine lv_aload_n hx hb dX1_worthIn_5 rfl (lv_at hl 0 rfl) ?_
  refine lv_iload_n hx hb dX1_worthIn_6 rfl (lv_at hl 1 rfl) ?_
  refine k_X1_isTrader hC (c_X1_isTrader_no l D cI b (up2 N 5 0 0) (x) (MI_5 (hI)) hx0) hB rfl ⟨rfl, rfl⟩ ⟨Nat.le_of_ble_eq_true rfl, Nat.le_of_ble_eq_true rfl⟩ ⟨Nat.zero_le _, Nat.zero_le _⟩ hl.1 rfl (Nat.le_of_ble_eq_true rfl) dX1_worthIn_7 ?_
  refine lv_if_ne (tgt := 19) hx hb dX1_worthIn_10 (by decide) (fun c1 => ?_) (fun c1 => ?_)
  · exfalso; revert c1; decide
  · refine lv_aload_n hx hb dX1_worthIn_13 rfl (lv_at hl 0 rfl) ?_
    refine lv_iconst (v := 1) hx hb dX1_worthIn_14 (by decide) ?_
    refine kw_X1_fail hC (c_X1_fail l D cI b (up2 N 5 0 0) (1)) hB rfl ⟨rfl, rfl⟩ ⟨Nat.le_of_ble_eq_true rfl, Nat.le_of_ble_eq_true rfl⟩ ⟨Nat.le_of_ble_eq_true rfl, Nat.le_of_ble_eq_true rfl⟩ hS hA hl.1 rfl (Nat.le_of_ble_eq_true rfl) dX1_worthIn_15 (fun H locs hB hS => ?_)
    exact wr_i hC hr hlocks mov_M (hB) hS dX1_worthIn_18 (by rfl)
set_option maxHeartbeats 4000000 in
set_option maxRecDepth 100000 in
theorem c_X1_worthIn_g (l : Launch) (D : va_G) (cI : ClassId) (b : Nat → Nat) (N : bS) {T R : Nat} {r : Nat} (y : Int32) (hI : MI N T R) (hr9 : r < R) (hy0 : isI y 1 60 = 0) : Wr l yX1_worthIn cX1_worthIn 4 (some .int) ({ frames := 6, cells := 0, slots := 0, locals := 137 } : Room) (MW D cI b N) (MW D cI b (up2 (up2 N 5 0 0) 5 0 2)) (inM b) [.ref (b 5), .int (nI r), .int (y)] (some (.int (0))) 0 0 := by
  refine Wr.of (by decide) (Nat.le_of_ble_eq_true rfl) ?_
  intro p e s m args below meth c ls hC hr hlocks hB hS hl
  have hx := hC.1
  have hb := hC.2.1
  have hA : ∀ q, (inM b) q → (inM b) q := fun _ h => h
  obtain ⟨hT, hR, hT8, hR6⟩ := id hI
  have hl : lv_has ls 4 [(0, .ref (b 5)), (1, .int (nI r)), (2, .int (y))] := hl
  refine lv_aload_n hx hb dX1_worthIn_0 rfl (lv_at hl 0 rfl) ?_
  refine lv_iconst (v := 0) hx hb dX1_worthIn_1 (by decide) ?_
  refine pM_thrown hC hB hS hA dX1_worthIn_2 (fun H locs hB hS => ?_)
  refine lv_aload_n hx hb dX1_worthIn_5 rfl (lv_at hl 0 rfl) ?_
  refine lv_iload_n hx hb dX1_worthIn_6 rfl (lv_at hl 1 rfl) ?_
  refine k_X1_isTrader hC (c_X1_isTrader_ok l D cI b (up2 N 5 0 0) (t := r) (MI_5 (hI)) (by omega)) hB rfl ⟨rfl, rfl⟩ ⟨Nat.le_of_ble_eq_true rfl, Nat.le_of_ble_eq_true rfl⟩ ⟨Nat.zero_le _, Nat.zero_le _⟩ hl.1 rfl (Nat.le_of_ble_eq_true rfl) dX1_worthIn_7 ?_
  refine lv_if_ne (tgt := 19) hx hb dX1_worthIn_10 (by decide) (fun c1 => ?_) (fun c1 => ?_)
  · refine lv_iload_n hx hb dX1_worthIn_19 rfl (lv_at hl 2 rfl) ?_
    refine lv_iconst (v := 1) hx hb dX1_worthIn_20 (by decide) ?_
    refine lv_bipush (v := 60) hx hb dX1_worthIn_21 (by decide) ?_
    refine k_X1_isIn hC (c_X1_isIn_no l (y) (1) (60) hy0) mov_T trivial rfl ⟨rfl, rfl⟩ ⟨Nat.le_of_ble_eq_true rfl, Nat.le_of_ble_eq_true rfl⟩ ⟨Nat.zero_le _, Nat.zero_le _⟩ hl.1 rfl (Nat.le_of_ble_eq_true rfl) dX1_worthIn_23 ?_
    refine lv_if_ne (tgt := 35) hx hb dX1_worthIn_26 (by decide) (fun c2 => ?_) (fun c2 => ?_)
    · exfalso; revert c2; decide
    · refine lv_aload_n hx hb dX1_worthIn_29 rfl (lv_at hl 0 rfl) ?_
      refine lv_iconst (v := 2) hx hb dX1_worthIn_30 (by decide) ?_
      refine kw_X1_fail hC (c_X1_fail l D cI b (up2 N 5 0 0) (2)) hB rfl ⟨rfl, rfl⟩ ⟨Nat.le_of_ble_eq_true rfl, Nat.le_of_ble_eq_true rfl⟩ ⟨Nat.le_of_ble_eq_true rfl, Nat.le_of_ble_eq_true rfl⟩ hS hA hl.1 rfl (Nat.le_of_ble_eq_true rfl) dX1_worthIn_31 (fun H locs hB hS => ?_)
      exact wr_i hC hr hlocks mov_M (hB) hS dX1_worthIn_34 (by rfl)
  · exfalso; revert c1; decide
set_option maxHeartbeats 4000000 in
set_option maxRecDepth 100000 in
theorem c_X1_bestToSell_f (l : Launch) (D : va_G) (cI : ClassId) (b : Nat → Nat) (N : bS) {T R : Nat} (x y : Int32) (hI : MI N T R) (hx0 : isI x 0 (nI R - 1) = 0) : Wr l yX1_bestToSell cX1_bestToSell 9 (some .int) ({ frames := 6, cells := 0, slots := 0, locals := 137 } : Room) (MW D cI b N) (MW D cI b (up2 (up2 N 5 0 0) 5 0 1)) (inM b) [.ref (b 5), .int (x), .int (y)] (some (.int (0))) 0 0 := by
  refine Wr.of (by decide) (Nat.le_of_ble_eq_true rfl) ?_
  intro p e s m args below meth c ls hC hr hlocks hB hS hl
  have hx := hC.1
  have hb := hC.2.1
  have hA : ∀ q, (inM b) q → (inM b) q := fun _ h => h
  obtain ⟨hT, hR, hT8, hR6⟩ := id hI
  have hl : lv_has ls 9 [(0, .ref (b 5)), (1, .int (x)), (2, .int (y))] := hl
  refine lv_aload_n hx hb dX1_bestToSell_0 rfl (lv_at hl 0 rfl) ?_
  refine lv_iconst (v := 0) hx hb dX1_bestToSell_1 (by decide) ?_
  refine pM_thrown hC hB hS hA dX1_bestToSell_2 (fun H locs hB hS => ?_)
  refine lv_aload_n hx hb dX1_bestToSell_5 rfl (lv_at hl 0 rfl) ?_
  refine lv_iload_n hx hb dX1_bestToSell_6 rfl (lv_at hl 1 rfl) ?_
  refine k_X1_isTrader hC (c_X1_isTrader_no l D cI b (up2 N 5 0 0) (x) (MI_5 (hI)) hx0) hB rfl ⟨rfl, rfl⟩ ⟨Nat.le_of_ble_eq_true rfl, Nat.le_of_ble_eq_true rfl⟩ ⟨Nat.zero_le _, Nat.zero_le _⟩ hl.1 rfl (Nat.le_of_ble_eq_true rfl) dX1_bestToSell_7 ?_
  refine lv_if_eq (tgt := 21) hx hb dX1_bestToSell_10 (by decide) (fun c1 => ?_) (fun c1 => ?_)
  · refine lv_aload_n hx hb dX1_bestToSell_21 rfl (lv_at hl 0 rfl) ?_
    refine lv_iconst (v := 1) hx hb dX1_bestToSell_22 (by decide) ?_
    refine kw_X1_fail hC (c_X1_fail l D cI b (up2 N 5 0 0) (1)) hB rfl ⟨rfl, rfl⟩ ⟨Nat.le_of_ble_eq_true rfl, Nat.le_of_ble_eq_true rfl⟩ ⟨Nat.le_of_ble_eq_true rfl, Nat.le_of_ble_eq_true rfl⟩ hS hA hl.1 rfl (Nat.le_of_ble_eq_true rfl) dX1_bestToSell_23 (fun H locs hB hS => ?_)
    exact wr_i hC hr hlocks mov_M (hB) hS dX1_bestToSell_26 (by rfl)
  · exfalso; revert c1; decide
set_option maxHeartbeats 4000000 in
set_option maxRecDepth 100000 in
theorem c_X1_bestToSell_g (l : Launch) (D : va_G) (cI : ClassId) (b : Nat → Nat) (N : bS) {T R : Nat} {r : Nat} (y : Int32) (hI : MI N T R) (hr9 : r < R) (hy0 : isI y 0 (nI T - 1) = 0) : Wr l yX1_bestToSell cX1_bestToSell 9 (some .int) ({ frames := 6, cells := 0, slots := 0, locals := 137 } : Room) (MW D cI b N) (MW D cI b (up2 (up2 N 5 0 0) 5 0 1)) (inM b) [.ref (b 5), .int (nI r), .int (y)] (some (.int (0))) 0 0 := by
  refine Wr.of (by decide) (Nat.le_of_ble_eq_true rfl) ?_
  intro p e s m args below meth c ls hC hr hlocks hB hS hl
  have hx := hC.1
  have hb := hC.2.1
  have hA : ∀ q, (inM b) q → (inM b) q := fun _ h => h
  obtain ⟨hT, hR, hT8, hR6⟩ := id hI
  have hl : lv_has ls 9 [(0, .ref (b 5)), (1, .int (nI r)), (2, .int (y))] := hl
  refine lv_aload_n hx hb dX1_bestToSell_0 rfl (lv_at hl 0 rfl) ?_
  refine lv_iconst (v := 0) hx hb dX1_bestToSell_1 (by decide) ?_
  refine pM_thrown hC hB hS hA dX1_bestToSell_2 (fun H locs hB hS => ?_)
  refine lv_aload_n hx hb dX1_bestToSell_5 rfl (lv_at hl 0 rfl) ?_
  refine lv_iload_n hx hb dX1_bestToSell_6 rfl (lv_at hl 1 rfl) ?_
  refine k_X1_isTrader hC (c_X1_isTrader_ok l D cI b (up2 N 5 0 0) (t := r) (MI_5 (hI)) (by omega)) hB rfl ⟨rfl, rfl⟩ ⟨Nat.le_of_ble_eq_true rfl, Nat.le_of_ble_eq_true rfl⟩ ⟨Nat.zero_le _, Nat.zero_le _⟩ hl.1 rfl (Nat.le_of_ble_eq_true rfl) dX1_bestToSell_7 ?_
  refine lv_if_eq (tgt := 21) hx hb dX1_bestToSell_10 (by decide) (fun c1 => ?_) (fun c1 => ?_)
  · exfalso; revert c1; decide
  · refine lv_aload_n hx hb dX1_bestToSell_13 rfl (lv_at hl 0 rfl) ?_
    refine lv_iload_n hx hb dX1_bestToSell_14 rfl (lv_at hl 2 rfl) ?_
    refine k_X1_isTower hC (c_X1_isTower_no l D cI b (up2 N 5 0 0) (y) (MI_5 (hI)) hy0) hB rfl ⟨rfl, rfl⟩ ⟨Nat.le_of_ble_eq_true rfl, Nat.le_of_ble_eq_true rfl⟩ ⟨Nat.zero_le _, Nat.zero_le _⟩ hl.1 rfl (Nat.le_of_ble_eq_true rfl) dX1_bestToSell_15 ?_
    refine lv_if_ne (tgt := 27) hx hb dX1_bestToSell_18 (by decide) (fun c2 => ?_) (fun c2 => ?_)
    · exfalso; revert c2; decide
    · refine lv_aload_n hx hb dX1_bestToSell_21 rfl (lv_at hl 0 rfl) ?_
      refine lv_iconst (v := 1) hx hb dX1_bestToSell_22 (by decide) ?_
      refine kw_X1_fail hC (c_X1_fail l D cI b (up2 N 5 0 0) (1)) hB rfl ⟨rfl, rfl⟩ ⟨Nat.le_of_ble_eq_true rfl, Nat.le_of_ble_eq_true rfl⟩ ⟨Nat.le_of_ble_eq_true rfl, Nat.le_of_ble_eq_true rfl⟩ hS hA hl.1 rfl (Nat.le_of_ble_eq_true rfl) dX1_bestToSell_23 (fun H locs hB hS => ?_)
      exact wr_i hC hr hlocks mov_M (hB) hS dX1_bestToSell_26 (by rfl)
set_option maxHeartbeats 4000000 in
set_option maxRecDepth 100000 in
theorem c_X1_bestToSell_ok (l : Launch) (D : va_G) (cI : ClassId) (b : Nat → Nat) (N : bS) {T R : Nat} {u : Nat → Nat} {r t M : Nat} (hI : MI N T R) (hr9 : r < R) (ht : t < T) (hM : mn 9 (N 3 (23 + 8 * r + t) + 9) = nI M) (hM9 : M ≤ 9) (hU : ∀ t, t < T → mU N t (u t)) (hP : mP N T) : Wr l yX1_bestToSell cX1_bestToSell 9 (some .int) ({ frames := 6, cells := 0, slots := 0, locals := 137 } : Room) (MW D cI b N) (MW D cI b (mBn (kp (up2 N 5 0 0)) T R r t (u t) (M + 1))) (inM b) [.ref (b 5), .int (nI r), .int (nI t)] (some (.int (nI ((mBm (mVl (kp (up2 N 5 0 0)) T R r t (u t)) (M + 1)).1)))) 0 0 := by
  refine Wr.of (by decide) (Nat.le_of_ble_eq_true rfl) ?_
  intro p e s m args below meth c ls hC hr hlocks hB hS hl
  have hx := hC.1
  have hb := hC.2.1
  have hA : ∀ q, (inM b) q → (inM b) q := fun _ h => h
  obtain ⟨hT, hR, hT8, hR6⟩ := id hI
  have hl : lv_has ls 9 [(0, .ref (b 5)), (1, .int (nI r)), (2, .int (nI t))] := hl
  have hut := (hU t ht).2.1
  refine lv_aload_n hx hb dX1_bestToSell_0 rfl (lv_at hl 0 rfl) ?_
  refine lv_iconst (v := 0) hx hb dX1_bestToSell_1 (by decide) ?_
  refine pM_thrown hC hB hS hA dX1_bestToSell_2 (fun H locs hB hS => ?_)
  refine lv_aload_n hx hb dX1_bestToSell_5 rfl (lv_at hl 0 rfl) ?_
  refine lv_iload_n hx hb dX1_bestToSell_6 rfl (lv_at hl 1 rfl) ?_
  refine k_X1_isTrader hC (c_X1_isTrader_ok l D cI b (up2 N 5 0 0) (t := r) (MI_5 (hI)) (by omega)) hB rfl ⟨rfl, rfl⟩ ⟨Nat.le_of_ble_eq_true rfl, Nat.le_of_ble_eq_true rfl⟩ ⟨Nat.zero_le _, Nat.zero_le _⟩ hl.1 rfl (Nat.le_of_ble_eq_true rfl) dX1_bestToSell_7 ?_
  refine lv_if_eq (tgt := 21) hx hb dX1_bestToSell_10 (by decide) (fun c1 => ?_) (fun c1 => ?_)
  · exfalso; revert c1; decide
  · refine lv_aload_n hx hb dX1_bestToSell_13 rfl (lv_at hl 0 rfl) ?_
    refine lv_iload_n hx hb dX1_bestToSell_14 rfl (lv_at hl 2 rfl) ?_
    refine k_X1_isTower hC (c_X1_isTower_ok l D cI b (up2 N 5 0 0) (t := t) (MI_5 (hI)) (by omega)) hB rfl ⟨rfl, rfl⟩ ⟨Nat.le_of_ble_eq_true rfl, Nat.le_of_ble_eq_true rfl⟩ ⟨Nat.zero_le _, Nat.zero_le _⟩ hl.1 rfl (Nat.le_of_ble_eq_true rfl) dX1_bestToSell_15 ?_
    refine lv_if_ne (tgt := 27) hx hb dX1_bestToSell_18 (by decide) (fun c2 => ?_) (fun c2 => ?_)
    · refine lv_aload_n hx hb dX1_bestToSell_27 rfl (lv_at hl 0 rfl) ?_
      refine lv_iload_n hx hb dX1_bestToSell_28 rfl (lv_at hl 2 rfl) ?_
      refine k_X1_until hC (c_X1_until l D cI b (up2 N 5 0 0) (t := t) (MI_5 (hI)) (by omega) ((mU_5 (hU)) _ (by omega)) (mP_5 (hP))) hB rfl ⟨rfl, rfl⟩ ⟨Nat.le_of_ble_eq_true rfl, Nat.le_of_ble_eq_true rfl⟩ ⟨Nat.zero_le _, Nat.zero_le _⟩ hl.1 rfl (Nat.le_of_ble_eq_true rfl) dX1_bestToSell_29 ?_
      refine lv_istore_n (lv' := [(3, .int (nI (u t))), (0, .ref (b 5)), (1, .int (nI r)), (2, .int (nI t))]) hx hb dX1_bestToSell_32 rfl hl (by decide) rfl (fun ls hl => ?_)
      refine lv_bipush (v := 9) hx hb dX1_bestToSell_33 (by decide) ?_
      refine lv_aload_n hx hb dX1_bestToSell_35 rfl (lv_at hl 1 rfl) ?_
      refine gM_now hC hB dX1_bestToSell_36 ?_
      refine lv_iload_n hx hb dX1_bestToSell_39 rfl (lv_at hl 2 rfl) ?_
      refine lv_iload_n hx hb dX1_bestToSell_40 rfl (lv_at hl 3 rfl) ?_
      refine k_X1_at hC (c_X1_at l (r := r) (t := t)) mov_T trivial rfl ⟨rfl, rfl⟩ ⟨Nat.le_of_ble_eq_true rfl, Nat.le_of_ble_eq_true rfl⟩ ⟨Nat.zero_le _, Nat.zero_le _⟩ hl.1 rfl (Nat.le_of_ble_eq_true rfl) dX1_bestToSell_41 ?_
      refine lM_now (v := N 3 (23 + 8 * r + t)) (23 + 8 * r + t) hC hB rfl (by omega) (by rw [up2_ne _ _ (by omega)]) dX1_bestToSell_44 ?_
      refine lv_bipush (v := 9) hx hb dX1_bestToSell_45 (by decide) ?_
      refine lv_iadd hx hb dX1_bestToSell_47 ?_
      refine k_X1_min hC hl.1 ⟨Nat.le_of_ble_eq_true rfl, Nat.le_of_ble_eq_true rfl⟩ ⟨Nat.le_of_ble_eq_true rfl, Nat.le_of_ble_eq_true rfl⟩ dX1_bestToSell_48 ?_
      refine lv_istore (lv' := [(4, .int (mn 9 ((N 3 (23 + 8 * r + t)) + 9))), (3, .int (nI (u t))), (0, .ref (b 5)), (1, .int (nI r)), (2, .int (nI t))]) hx hb dX1_bestToSell_51 hl (by decide) rfl (fun ls hl => ?_)
      rw [hM] at hl
      refine lv_iconst (v := 0) hx hb dX1_bestToSell_53 (by decide) ?_
      refine lv_istore (lv' := [(5, .int (0)), (4, .int (nI M)), (3, .int (nI (u t))), (0, .ref (b 5)), (1, .int (nI r)), (2, .int (nI t))]) hx hb dX1_bestToSell_54 hl (by decide) rfl (fun ls hl => ?_)
      refine lv_iconst (v := 0) hx hb dX1_bestToSell_56 (by decide) ?_
      refine lv_istore (lv' := [(6, .int (0)), (5, .int (0)), (4, .int (nI M)), (3, .int (nI (u t))), (0, .ref (b 5)), (1, .int (nI r)), (2, .int (nI t))]) hx hb dX1_bestToSell_57 hl (by decide) rfl (fun ls hl => ?_)
      refine lv_aload_n hx hb dX1_bestToSell_59 rfl (lv_at hl 4 rfl) ?_
      refine kw_X1_keep hC (c_X1_keep l D cI b (up2 N 5 0 0)) hB rfl ⟨rfl, rfl⟩ ⟨Nat.le_of_ble_eq_true rfl, Nat.le_of_ble_eq_true rfl⟩ ⟨Nat.le_of_ble_eq_true rfl, Nat.le_of_ble_eq_true rfl⟩ hS hA hl.1 rfl (Nat.le_of_ble_eq_true rfl) dX1_bestToSell_60 (fun H locs hB hS => ?_)
      refine lv_iconst (v := 0) hx hb dX1_bestToSell_63 (by decide) ?_
      refine lv_istore (lv' := [(7, .int (0)), (6, .int (0)), (5, .int (0)), (4, .int (nI M)), (3, .int (nI (u t))), (0, .ref (b 5)), (1, .int (nI r)), (2, .int (nI t))]) hx hb dX1_bestToSell_64 hl (by decide) rfl (fun ls hl => ?_)
      refine loopU (P := fun i => ∀ (H : Heap) (locs : List Loc), MW D cI b ((mBn (kp (up2 N 5 0 0)) T R r t (u t) i)) s H → va_S (inM b) s.heap H locs → ∀ ls : Array Slot, lv_has ls 9 [(7, .int (nI i)), (6, .int ((mBm (mVl (kp (up2 N 5 0 0)) T R r t (u t)) i).2)), (5, .int (nI ((mBm (mVl (kp (up2 N 5 0 0)) T R r t (u t)) i).1))), (4, .int (nI M)), (3, .int (nI (u t))), (0, .ref (b 5)), (1, .int (nI r)), (2, .int (nI t))] → W p l e ({ frames := 6, cells := 0, slots := 0, locals := 137 } : Room) s m args below meth c H locs 0 0 (MQ below (qW (some (.int (nI ((mBm (mVl (kp (up2 N 5 0 0)) T R r t (u t)) (M + 1)).1)))) (MW D cI b (mBn (kp (up2 N 5 0 0)) T R r t (u t) (M + 1))) (inM b)) args s 0 0 (inM b)) (F0 m 66 ls [])) (M + 1) ?_ ?_ 0 (by omega) H locs hB hS ls (by first | exact lv_sub hl [0, 1, 2, 3, 4, 5, 6, 7] rfl | (simpa using lv_sub hl [0, 1, 2, 3, 4, 5, 6, 7] rfl))
      · intro H locs hB hS ls hl
        refine lv_iload hx hb dX1_bestToSell_66 (lv_at hl 0 rfl) ?_
        refine lv_iload hx hb dX1_bestToSell_68 (lv_at hl 3 rfl) ?_
        refine jgt (i := M + 1) (j := M) (tgt := 128) hC dX1_bestToSell_70 (by decide) rfl rfl (by omega) (by omega) (fun c3 => ?_) (fun c3 => ?_)
        · refine lv_iload hx hb dX1_bestToSell_128 (lv_at hl 2 rfl) ?_
          exact wr_i hC hr hlocks mov_M (hB) hS dX1_bestToSell_130 (by rfl)
        · exfalso; omega
      · intro i hi ih H locs hB hS ls hl
        refine lv_iload hx hb dX1_bestToSell_66 (lv_at hl 0 rfl) ?_
        refine lv_iload hx hb dX1_bestToSell_68 (lv_at hl 3 rfl) ?_
        refine jgt (i := i) (j := M) (tgt := 128) hC dX1_bestToSell_70 (by decide) rfl rfl (by omega) (by omega) (fun c4 => ?_) (fun c4 => ?_)
        · exfalso; omega
        · refine lv_aload_n hx hb dX1_bestToSell_73 rfl (lv_at hl 5 rfl) ?_
          refine lv_iload_n hx hb dX1_bestToSell_74 rfl (lv_at hl 6 rfl) ?_
          refine lv_iload_n hx hb dX1_bestToSell_75 rfl (lv_at hl 7 rfl) ?_
          refine lv_iload hx hb dX1_bestToSell_76 (lv_at hl 0 rfl) ?_
          refine kw_X1_sold hC (c_X1_sold l D cI b (mBn (kp (up2 N 5 0 0)) T R r t (u t) i) (r := r) (t := t) (k := i) (MI_bn (MI_kp (MI_5 hI)) _) (by omega) (by omega)) hB rfl ⟨rfl, rfl⟩ ⟨Nat.le_of_ble_eq_true rfl, Nat.le_of_ble_eq_true rfl⟩ ⟨Nat.le_of_ble_eq_true rfl, Nat.le_of_ble_eq_true rfl⟩ hS hA hl.1 rfl (Nat.le_of_ble_eq_true rfl) dX1_bestToSell_78 (fun H locs hB hS => ?_)
          refine lv_pop hx hb dX1_bestToSell_81 rfl ?_
          refine lv_aload_n hx hb dX1_bestToSell_82 rfl (lv_at hl 5 rfl) ?_
          refine lv_iload_n hx hb dX1_bestToSell_83 rfl (lv_at hl 4 rfl) ?_
          refine kw_X1_secondsOn hC (c_X1_secondsOn l D cI b (mSo (mBn (kp (up2 N 5 0 0)) T R r t (u t) i) R r t i) (MI_so (MI_bn (MI_kp (MI_5 hI)) _)) (mP_so (mP_bn (mP_kp (mP_5 hP)) _)) (k := u t) (by omega)) hB rfl ⟨rfl, rfl⟩ ⟨Nat.le_of_ble_eq_true rfl, Nat.le_of_ble_eq_true rfl⟩ ⟨Nat.le_of_ble_eq_true rfl, Nat.le_of_ble_eq_true rfl⟩ hS hA hl.1 rfl (Nat.le_of_ble_eq_true rfl) dX1_bestToSell_84 (fun H locs hB hS => ?_)
          refine lv_pop hx hb dX1_bestToSell_87 rfl ?_
          refine lv_aload_n hx hb dX1_bestToSell_88 rfl (lv_at hl 5 rfl) ?_
          refine lv_iload_n hx hb dX1_bestToSell_89 rfl (lv_at hl 6 rfl) ?_
          refine k_X1_worth hC (c_X1_worth l D cI b (mPa (mSo (mBn (kp (up2 N 5 0 0)) T R r t (u t) i) R r t i) T R (u t)) (r := r) (MI_pa (MI_so (MI_bn (MI_kp (MI_5 hI)) _))) (by omega)) hB rfl ⟨rfl, rfl⟩ ⟨Nat.le_of_ble_eq_true rfl, Nat.le_of_ble_eq_true rfl⟩ ⟨Nat.zero_le _, Nat.zero_le _⟩ hl.1 rfl (Nat.le_of_ble_eq_true rfl) dX1_bestToSell_90 ?_
          refine lv_istore (lv' := [(8, .int (mWo (mPa (mSo (mBn (kp (up2 N 5 0 0)) T R r t (u t) i) R r t i) T R (u t)) T R r)), (7, .int (nI i)), (6, .int ((mBm (mVl (kp (up2 N 5 0 0)) T R r t (u t)) i).2)), (5, .int (nI ((mBm (mVl (kp (up2 N 5 0 0)) T R r t (u t)) i).1))), (4, .int (nI M)), (3, .int (nI (u t))), (0, .ref (b 5)), (1, .int (nI r)), (2, .int (nI t))]) hx hb dX1_bestToSell_93 hl (by decide) rfl (fun ls hl => ?_)
          refine lv_aload_n hx hb dX1_bestToSell_95 rfl (lv_at hl 6 rfl) ?_
          refine kw_X1_bringBack hC (c_X1_bringBack l D cI b (mPa (mSo (mBn (kp (up2 N 5 0 0)) T R r t (u t) i) R r t i) T R (u t))) hB rfl ⟨rfl, rfl⟩ ⟨Nat.le_of_ble_eq_true rfl, Nat.le_of_ble_eq_true rfl⟩ ⟨Nat.le_of_ble_eq_true rfl, Nat.le_of_ble_eq_true rfl⟩ hS hA hl.1 rfl (Nat.le_of_ble_eq_true rfl) dX1_bestToSell_96 (fun H locs hB hS => ?_)
          refine lv_iload hx hb dX1_bestToSell_99 (lv_at hl 1 rfl) ?_
          refine lv_if_le (tgt := 114) hx hb dX1_bestToSell_101 (by decide) (fun c5 => ?_) (fun c5 => ?_)
          · refine lv_iload hx hb dX1_bestToSell_114 (lv_at hl 1 rfl) ?_
            refine lv_istore (lv' := [(5, .int (nI i)), (8, .int (mWo (mPa (mSo (mBn (kp (up2 N 5 0 0)) T R r t (u t) i) R r t i) T R (u t)) T R r)), (7, .int (nI i)), (6, .int ((mBm (mVl (kp (up2 N 5 0 0)) T R r t (u t)) i).2)), (4, .int (nI M)), (3, .int (nI (u t))), (0, .ref (b 5)), (1, .int (nI r)), (2, .int (nI t))]) hx hb dX1_bestToSell_116 hl (by decide) rfl (fun ls hl => ?_)
            refine lv_iload hx hb dX1_bestToSell_118 (lv_at hl 1 rfl) ?_
            refine lv_istore (lv' := [(6, .int (mWo (mPa (mSo (mBn (kp (up2 N 5 0 0)) T R r t (u t) i) R r t i) T R (u t)) T R r)), (5, .int (nI i)), (8, .int (mWo (mPa (mSo (mBn (kp (up2 N 5 0 0)) T R r t (u t) i) R r t i) T R (u t)) T R r)), (7, .int (nI i)), (4, .int (nI M)), (3, .int (nI (u t))), (0, .ref (b 5)), (1, .int (nI r)), (2, .int (nI t))]) hx hb dX1_bestToSell_120 hl (by decide) rfl (fun ls hl => ?_)
            refine lv_iinc (v := nI (i + 1)) (lv' := [(7, .int (nI (i + 1))), (6, .int (mWo (mPa (mSo (mBn (kp (up2 N 5 0 0)) T R r t (u t) i) R r t i) T R (u t)) T R r)), (5, .int (nI i)), (8, .int (mWo (mPa (mSo (mBn (kp (up2 N 5 0 0)) T R r t (u t) i) R r t i) T R (u t)) T R r)), (4, .int (nI M)), (3, .int (nI (u t))), (0, .ref (b 5)), (1, .int (nI r)), (2, .int (nI t))]) hx hb dX1_bestToSell_122 hl (k := 3) rfl (ninc i) (by decide) rfl (fun ls hl => ?_)
            refine lv_goto (tgt := 66) hx hb dX1_bestToSell_125 (by decide) ?_
            have e6 : (mBm (mVl (kp (up2 N 5 0 0)) T R r t (u t)) (i + 1)).2 = mWo (mPa (mSo (mBn (kp (up2 N 5 0 0)) T R r t (u t) i) R r t i) T R (u t)) T R r := by rw [mBm_0 c5] <;> rfl
            have e7 : nI ((mBm (mVl (kp (up2 N 5 0 0)) T R r t (u t)) (i + 1)).1) = nI i := by rw [mBm_0 c5] <;> rfl
            exact ih H locs (hB) hS ls (by rw [e6, e7]; exact lv_sub hl [0, 1, 2, 4, 5, 6, 7, 8] rfl)
          · refine lv_iload hx hb dX1_bestToSell_104 (lv_at hl 0 rfl) ?_
            refine lv_iload hx hb dX1_bestToSell_106 (lv_at hl 2 rfl) ?_
            refine lv_icmp_gt (tgt := 114) hx hb dX1_bestToSell_108 (by decide) (fun c8 => ?_) (fun c8 => ?_)
            · refine lv_iload hx hb dX1_bestToSell_114 (lv_at hl 1 rfl) ?_
              refine lv_istore (lv' := [(5, .int (nI i)), (8, .int (mWo (mPa (mSo (mBn (kp (up2 N 5 0 0)) T R r t (u t) i) R r t i) T R (u t)) T R r)), (7, .int (nI i)), (6, .int ((mBm (mVl (kp (up2 N 5 0 0)) T R r t (u t)) i).2)), (4, .int (nI M)), (3, .int (nI (u t))), (0, .ref (b 5)), (1, .int (nI r)), (2, .int (nI t))]) hx hb dX1_bestToSell_116 hl (by decide) rfl (fun ls hl => ?_)
              refine lv_iload hx hb dX1_bestToSell_118 (lv_at hl 1 rfl) ?_
              refine lv_istore (lv' := [(6, .int (mWo (mPa (mSo (mBn (kp (up2 N 5 0 0)) T R r t (u t) i) R r t i) T R (u t)) T R r)), (5, .int (nI i)), (8, .int (mWo (mPa (mSo (mBn (kp (up2 N 5 0 0)) T R r t (u t) i) R r t i) T R (u t)) T R r)), (7, .int (nI i)), (4, .int (nI M)), (3, .int (nI (u t))), (0, .ref (b 5)), (1, .int (nI r)), (2, .int (nI t))]) hx hb dX1_bestToSell_120 hl (by decide) rfl (fun ls hl => ?_)
              refine lv_iinc (v := nI (i + 1)) (lv' := [(7, .int (nI (i + 1))), (6, .int (mWo (mPa (mSo (mBn (kp (up2 N 5 0 0)) T R r t (u t) i) R r t i) T R (u t)) T R r)), (5, .int (nI i)), (8, .int (mWo (mPa (mSo (mBn (kp (up2 N 5 0 0)) T R r t (u t) i) R r t i) T R (u t)) T R r)), (4, .int (nI M)), (3, .int (nI (u t))), (0, .ref (b 5)), (1, .int (nI r)), (2, .int (nI t))]) hx hb dX1_bestToSell_122 hl (k := 3) rfl (ninc i) (by decide) rfl (fun ls hl => ?_)
              refine lv_goto (tgt := 66) hx hb dX1_bestToSell_125 (by decide) ?_
              have e9 : (mBm (mVl (kp (up2 N 5 0 0)) T R r t (u t)) (i + 1)).2 = mWo (mPa (mSo (mBn (kp (up2 N 5 0 0)) T R r t (u t) i) R r t i) T R (u t)) T R r := by rw [mBm_1 c5 c8] <;> rfl
              have e10 : nI ((mBm (mVl (kp (up2 N 5 0 0)) T R r t (u t)) (i + 1)).1) = nI i := by rw [mBm_1 c5 c8] <;> rfl
              exact ih H locs (hB) hS ls (by rw [e9, e10]; exact lv_sub hl [0, 1, 2, 4, 5, 6, 7, 8] rfl)
            · refine lv_goto (tgt := 122) hx hb dX1_bestToSell_111 (by decide) ?_
              refine lv_iinc (v := nI (i + 1)) (lv' := [(7, .int (nI (i + 1))), (8, .int (mWo (mPa (mSo (mBn (kp (up2 N 5 0 0)) T R r t (u t) i) R r t i) T R (u t)) T R r)), (6, .int ((mBm (mVl (kp (up2 N 5 0 0)) T R r t (u t)) i).2)), (5, .int (nI ((mBm (mVl (kp (up2 N 5 0 0)) T R r t (u t)) i).1))), (4, .int (nI M)), (3, .int (nI (u t))), (0, .ref (b 5)), (1, .int (nI r)), (2, .int (nI t))]) hx hb dX1_bestToSell_122 hl (k := 1) rfl (ninc i) (by decide) rfl (fun ls hl => ?_)
              refine lv_goto (tgt := 66) hx hb dX1_bestToSell_125 (by decide) ?_
              have e11 : (mBm (mVl (kp (up2 N 5 0 0)) T R r t (u t)) (i + 1)).2 = (mBm (mVl (kp (up2 N 5 0 0)) T R r t (u t)) i).2 := by rw [mBm_2 c5 c8] <;> rfl
              have e12 : nI ((mBm (mVl (kp (up2 N 5 0 0)) T R r t (u t)) (i + 1)).1) = nI ((mBm (mVl (kp (up2 N 5 0 0)) T R r t (u t)) i).1) := by rw [mBm_2 c5 c8] <;> rfl
              exact ih H locs (hB) hS ls (by rw [e11, e12]; exact lv_sub hl [0, 2, 3, 4, 5, 6, 7, 8] rfl)
    · exfalso; revert c2; decide
set_option maxHeartbeats 4000000 in
set_option maxRecDepth 100000 in
theorem c_X1_secondsUntilDebt_f (l : Launch) (D : va_G) (cI : ClassId) (b : Nat → Nat) (N : bS) {T R : Nat} (x : Int32) (hI : MI N T R) (hx0 : isI x 0 (nI R - 1) = 0) : Wr l yX1_secondsUntilDebt cX1_secondsUntilDebt 3 (some .int) ({ frames := 5, cells := 0, slots := 0, locals := 114 } : Room) (MW D cI b N) (MW D cI b (up2 (up2 N 5 0 0) 5 0 1)) (inM b) [.ref (b 5), .int (x)] (some (.int (0))) 0 0 := by
  refine Wr.of (by decide) (Nat.le_of_ble_eq_true rfl) ?_
  intro p e s m args below meth c ls hC hr hlocks hB hS hl
  have hx := hC.1
  have hb := hC.2.1
  have hA : ∀ q, (inM b) q → (inM b) q := fun _ h => h
  obtain ⟨hT, hR, hT8, hR6⟩ := id hI
  have hl : lv_has ls 3 [(0, .ref (b 5)), (1, .int (x))] := hl
  refine lv_aload_n hx hb dX1_secondsUntilDebt_0 rfl (lv_at hl 0 rfl) ?_
  refine lv_iconst (v := 0) hx hb dX1_secondsUntilDebt_1 (by decide) ?_
  refine pM_thrown hC hB hS hA dX1_secondsUntilDebt_2 (fun H locs hB hS => ?_)
  refine lv_aload_n hx hb dX1_secondsUntilDebt_5 rfl (lv_at hl 0 rfl) ?_
  refine lv_iload_n hx hb dX1_secondsUntilDebt_6 rfl (lv_at hl 1 rfl) ?_
  refine k_X1_isTrader hC (c_X1_isTrader_no l D cI b (up2 N 5 0 0) (x) (MI_5 (hI)) hx0) hB rfl ⟨rfl, rfl⟩ ⟨Nat.le_of_ble_eq_true rfl, Nat.le_of_ble_eq_true rfl⟩ ⟨Nat.zero_le _, Nat.zero_le _⟩ hl.1 rfl (Nat.le_of_ble_eq_true rfl) dX1_secondsUntilDebt_7 ?_
  refine lv_if_ne (tgt := 19) hx hb dX1_secondsUntilDebt_10 (by decide) (fun c1 => ?_) (fun c1 => ?_)
  · exfalso; revert c1; decide
  · refine lv_aload_n hx hb dX1_secondsUntilDebt_13 rfl (lv_at hl 0 rfl) ?_
    refine lv_iconst (v := 1) hx hb dX1_secondsUntilDebt_14 (by decide) ?_
    refine kw_X1_fail hC (c_X1_fail l D cI b (up2 N 5 0 0) (1)) hB rfl ⟨rfl, rfl⟩ ⟨Nat.le_of_ble_eq_true rfl, Nat.le_of_ble_eq_true rfl⟩ ⟨Nat.le_of_ble_eq_true rfl, Nat.le_of_ble_eq_true rfl⟩ hS hA hl.1 rfl (Nat.le_of_ble_eq_true rfl) dX1_secondsUntilDebt_15 (fun H locs hB hS => ?_)
    exact wr_i hC hr hlocks mov_M (hB) hS dX1_secondsUntilDebt_18 (by rfl)

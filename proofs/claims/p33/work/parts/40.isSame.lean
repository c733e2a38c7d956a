set_option maxHeartbeats 8000000 in
set_option maxRecDepth 100000 in
theorem c_X1_isSame (l : Launch) (D : va_G) (cI cQ : ClassId) (a b : Nat → Nat) {S N : bS} {T R sec : Nat} {w9 p9 bt9 u9 q9 : Nat → Nat} (hJ : Jc S N T R sec w9 p9 bt9 u9 q9) : Rd l yX1_isSame cX1_isSame 13 (some .boolean) ({ frames := 6, cells := 0, slots := 0, locals := 140 } : Room) (fun U H => BW D cI cQ a S U H ∧ SW D cI cQ b N T R U H) [.ref (b 0), .ref (a 13)] (.int 1) := by
  refine Rd.of (by decide) (Nat.le_of_ble_eq_true rfl) ?_
  intro p e s m args below meth c ls hC hr hlocks hW hl
  obtain ⟨hB, hN⟩ := hW
  have hx := hC.1
  have hb := hC.2.1
  have hT8 := hJ.T8
  have hR6 := hJ.R6
  have hP := hJ.hP
  have hl : lv_has ls 13 [(0, .ref (b 0)), (1, .ref (a 13))] := hl
  refine lv_aload_n hx hb dX1_isSame_0 rfl (lv_at hl 0 rfl) ?_
  refine gX1_towers hC hN dX1_isSame_1 ?_
  refine nS_towers hC hN dX1_isSame_4 ?_
  refine lv_istore_n (lv' := [(2, .int (nI T)), (0, .ref (b 0)), (1, .ref (a 13))]) hx hb dX1_isSame_5 rfl hl (by decide) rfl (fun ls hl => ?_)
  refine lv_aload_n hx hb dX1_isSame_6 rfl (lv_at hl 1 rfl) ?_
  refine gX1_purses hC hN dX1_isSame_7 ?_
  refine nS_purses hC hN dX1_isSame_10 ?_
  refine lv_istore_n (lv' := [(3, .int (nI R)), (2, .int (nI T)), (0, .ref (b 0)), (1, .ref (a 13))]) hx hb dX1_isSame_11 rfl hl (by decide) rfl (fun ls hl => ?_)
  refine lv_aload_n hx hb dX1_isSame_12 rfl (lv_at hl 3 rfl) ?_
  refine k1_X0_second hC (c_X0_second l D cI cQ a S hJ.1) hB rfl ⟨rfl, rfl⟩ ⟨Nat.le_of_ble_eq_true rfl, Nat.le_of_ble_eq_true rfl⟩ ⟨Nat.zero_le _, Nat.zero_le _⟩ hl.1 rfl (Nat.le_of_ble_eq_true rfl) dX1_isSame_13 ?_
  refine lv_aload_n hx hb dX1_isSame_16 rfl (lv_at hl 2 rfl) ?_
  refine gX1_second hC hN rfl dX1_isSame_17 ?_
  refine lv_icmp_ne (tgt := 39) hx hb dX1_isSame_20 (by decide) (fun c1 => ?_) (fun c1 => ?_)
  · exfalso; exact c1 (hJ.2.2.2.1.1.trans hJ.2.2.2.1.2.1.symm)
  · refine lv_aload_n hx hb dX1_isSame_23 rfl (lv_at hl 3 rfl) ?_
    refine k1_X0_towers hC (c_X0_towers l D cI cQ a S hJ.1) hB rfl ⟨rfl, rfl⟩ ⟨Nat.le_of_ble_eq_true rfl, Nat.le_of_ble_eq_true rfl⟩ ⟨Nat.zero_le _, Nat.zero_le _⟩ hl.1 rfl (Nat.le_of_ble_eq_true rfl) dX1_isSame_24 ?_
    refine lv_iload_n hx hb dX1_isSame_27 rfl (lv_at hl 1 rfl) ?_
    refine lv_icmp_ne (tgt := 39) hx hb dX1_isSame_28 (by decide) (fun c2 => ?_) (fun c2 => ?_)
    · exfalso; exact c2 rfl
    · refine lv_aload_n hx hb dX1_isSame_31 rfl (lv_at hl 3 rfl) ?_
      refine k1_X0_traders hC (c_X0_traders l D cI cQ a S hJ.1) hB rfl ⟨rfl, rfl⟩ ⟨Nat.le_of_ble_eq_true rfl, Nat.le_of_ble_eq_true rfl⟩ ⟨Nat.zero_le _, Nat.zero_le _⟩ hl.1 rfl (Nat.le_of_ble_eq_true rfl) dX1_isSame_32 ?_
      refine lv_iload_n hx hb dX1_isSame_35 rfl (lv_at hl 0 rfl) ?_
      refine lv_icmp_eq (tgt := 41) hx hb dX1_isSame_36 (by decide) (fun c3 => ?_) (fun c3 => ?_)
      · refine lv_iconst (v := -1) hx hb dX1_isSame_41 (by decide) ?_
        refine lv_istore (lv' := [(4, .int (-1)), (3, .int (nI R)), (2, .int (nI T)), (0, .ref (b 0)), (1, .ref (a 13))]) hx hb dX1_isSame_42 hl (by decide) rfl (fun ls hl => ?_)
        refine lv_iconst (v := -1) hx hb dX1_isSame_44 (by decide) ?_
        refine lv_istore (lv' := [(5, .int (-1)), (4, .int (-1)), (3, .int (nI R)), (2, .int (nI T)), (0, .ref (b 0)), (1, .ref (a 13))]) hx hb dX1_isSame_45 hl (by decide) rfl (fun ls hl => ?_)
        refine lv_iconst (v := 0) hx hb dX1_isSame_47 (by decide) ?_
        refine lv_istore (lv' := [(6, .int (0)), (5, .int (-1)), (4, .int (-1)), (3, .int (nI R)), (2, .int (nI T)), (0, .ref (b 0)), (1, .ref (a 13))]) hx hb dX1_isSame_48 hl (by decide) rfl (fun ls hl => ?_)
        refine lv_iconst (v := 0) hx hb dX1_isSame_50 (by decide) ?_
        refine lv_istore (lv' := [(7, .int (0)), (6, .int (0)), (5, .int (-1)), (4, .int (-1)), (3, .int (nI R)), (2, .int (nI T)), (0, .ref (b 0)), (1, .ref (a 13))]) hx hb dX1_isSame_51 hl (by decide) rfl (fun ls hl => ?_)
        refine loopU (P := fun i => ∀ ls : Array Slot, lv_has ls 13 [(7, .int (nI i)), (4, .int (oI (amx (sPr N) i))), (5, .int (oI (amn (sUn N) i))), (6, .int (sma 0 (sPr N) i)), (0, .ref (b 0)), (1, .ref (a 13)), (2, .int (nI T)), (3, .int (nI R))] → W p l e ({ frames := 6, cells := 0, slots := 0, locals := 140 } : Room) s m args below meth c s.heap [] 0 0 (MQ below (k2_QcV (.int 1)) args s 0 0 (fun _ => False)) (F0 m 53 ls [])) (T) ?_ ?_ 0 (by omega) ls (by first | exact lv_sub hl [0, 3, 2, 1, 6, 7, 5, 4] rfl | (simpa using lv_sub hl [0, 3, 2, 1, 6, 7, 5, 4] rfl))
        · intro ls hl
          refine lv_iload hx hb dX1_isSame_53 (lv_at hl 0 rfl) ?_
          refine lv_iload_n hx hb dX1_isSame_55 rfl (lv_at hl 6 rfl) ?_
          refine jge (i := T) (j := T) (tgt := 265) hC dX1_isSame_56 (by decide) rfl rfl (by omega) (by omega) (fun c4 => ?_) (fun c4 => ?_)
          · refine lv_iconst (v := -1) hx hb dX1_isSame_265 (by decide) ?_
            refine lv_istore (lv' := [(7, .int (-1)), (4, .int (oI (amx (sPr N) T))), (5, .int (oI (amn (sUn N) T))), (6, .int (sma 0 (sPr N) T)), (0, .ref (b 0)), (1, .ref (a 13)), (2, .int (nI T)), (3, .int (nI R))]) hx hb dX1_isSame_266 hl (by decide) rfl (fun ls hl => ?_)
            refine lv_iconst (v := 0) hx hb dX1_isSame_268 (by decide) ?_
            refine lv_istore (lv' := [(8, .int (0)), (7, .int (-1)), (4, .int (oI (amx (sPr N) T))), (5, .int (oI (amn (sUn N) T))), (6, .int (sma 0 (sPr N) T)), (0, .ref (b 0)), (1, .ref (a 13)), (2, .int (nI T)), (3, .int (nI R))]) hx hb dX1_isSame_269 hl (by decide) rfl (fun ls hl => ?_)
            refine lv_iconst (v := 0) hx hb dX1_isSame_271 (by decide) ?_
            refine lv_istore (lv' := [(9, .int (0)), (8, .int (0)), (7, .int (-1)), (4, .int (oI (amx (sPr N) T))), (5, .int (oI (amn (sUn N) T))), (6, .int (sma 0 (sPr N) T)), (0, .ref (b 0)), (1, .ref (a 13)), (2, .int (nI T)), (3, .int (nI R))]) hx hb dX1_isSame_272 hl (by decide) rfl (fun ls hl => ?_)
            refine loopU (P := fun r => ∀ ls : Array Slot, lv_has ls 13 [(9, .int (nI r)), (7, .int (oI (amx (sWo N T) r))), (8, .int (sma 0 (fun r => if 0 ≤ N 5 r then 0 else 1) r)), (4, .int (oI (amx (sPr N) T))), (5, .int (oI (amn (sUn N) T))), (6, .int (sma 0 (sPr N) T)), (0, .ref (b 0)), (1, .ref (a 13)), (2, .int (nI T)), (3, .int (nI R))] → W p l e ({ frames := 6, cells := 0, slots := 0, locals := 140 } : Room) s m args below meth c s.heap [] 0 0 (MQ below (k2_QcV (.int 1)) args s 0 0 (fun _ => False)) (F0 m 274 ls [])) (R) ?_ ?_ 0 (by omega) ls (by first | exact lv_sub hl [0, 2, 1, 3, 4, 5, 6, 7, 8, 9] rfl | (simpa using lv_sub hl [0, 2, 1, 3, 4, 5, 6, 7, 8, 9] rfl))
            · intro ls hl
              refine lv_iload hx hb dX1_isSame_274 (lv_at hl 0 rfl) ?_
              refine lv_iload_n hx hb dX1_isSame_276 rfl (lv_at hl 9 rfl) ?_
              refine jge (i := R) (j := R) (tgt := 438) hC dX1_isSame_277 (by decide) rfl rfl (by omega) (by omega) (fun c5 => ?_) (fun c5 => ?_)
              · refine lv_aload_n hx hb dX1_isSame_438 rfl (lv_at hl 7 rfl) ?_
                refine k1_X0_dearest hC (c_X0_dearest l D cI cQ a S hJ.1) hB rfl ⟨rfl, rfl⟩ ⟨Nat.le_of_ble_eq_true rfl, Nat.le_of_ble_eq_true rfl⟩ ⟨Nat.zero_le _, Nat.zero_le _⟩ hl.1 rfl (Nat.le_of_ble_eq_true rfl) dX1_isSame_439 ?_
                refine lv_iload hx hb dX1_isSame_442 (lv_at hl 3 rfl) ?_
                refine lv_icmp_ne (tgt := 500) hx hb dX1_isSame_444 (by decide) (fun c6 => ?_) (fun c6 => ?_)
                · exfalso; exact c6 (congrArg oI hJ.de)
                · refine lv_aload_n hx hb dX1_isSame_447 rfl (lv_at hl 7 rfl) ?_
                  refine k1_X0_nextToStrike hC (c_X0_nextToStrike l D cI cQ a S hJ.1) hB rfl ⟨rfl, rfl⟩ ⟨Nat.le_of_ble_eq_true rfl, Nat.le_of_ble_eq_true rfl⟩ ⟨Nat.zero_le _, Nat.zero_le _⟩ hl.1 rfl (Nat.le_of_ble_eq_true rfl) dX1_isSame_448 ?_
                  refine lv_iload hx hb dX1_isSame_451 (lv_at hl 4 rfl) ?_
                  refine lv_icmp_ne (tgt := 500) hx hb dX1_isSame_453 (by decide) (fun c7 => ?_) (fun c7 => ?_)
                  · exfalso; exact c7 (congrArg oI hJ.nx)
                  · refine lv_aload_n hx hb dX1_isSame_456 rfl (lv_at hl 7 rfl) ?_
                    refine k1_X0_richest hC (c_X0_richest l D cI cQ a S hJ.1) hB rfl ⟨rfl, rfl⟩ ⟨Nat.le_of_ble_eq_true rfl, Nat.le_of_ble_eq_true rfl⟩ ⟨Nat.zero_le _, Nat.zero_le _⟩ hl.1 rfl (Nat.le_of_ble_eq_true rfl) dX1_isSame_457 ?_
                    refine lv_iload hx hb dX1_isSame_460 (lv_at hl 1 rfl) ?_
                    refine lv_icmp_ne (tgt := 500) hx hb dX1_isSame_462 (by decide) (fun c8 => ?_) (fun c8 => ?_)
                    · exfalso; exact c8 (congrArg oI hJ.rc)
                    · refine lv_aload_n hx hb dX1_isSame_465 rfl (lv_at hl 7 rfl) ?_
                      refine k1_X0_inDebt hC (c_X0_inDebt l D cI cQ a S hJ.1) hB rfl ⟨rfl, rfl⟩ ⟨Nat.le_of_ble_eq_true rfl, Nat.le_of_ble_eq_true rfl⟩ ⟨Nat.zero_le _, Nat.zero_le _⟩ hl.1 rfl (Nat.le_of_ble_eq_true rfl) dX1_isSame_466 ?_
                      refine lv_iload hx hb dX1_isSame_469 (lv_at hl 2 rfl) ?_
                      refine lv_icmp_ne (tgt := 500) hx hb dX1_isSame_471 (by decide) (fun c9 => ?_) (fun c9 => ?_)
                      · exfalso; exact c9 hJ.ow
                      · refine lv_aload_n hx hb dX1_isSame_474 rfl (lv_at hl 7 rfl) ?_
                        refine k1_X0_meanPrice hC (c_X0_meanPrice l D cI cQ a S hJ.1 (fun h1 => (hJ.mn h1).1)) hB rfl ⟨rfl, rfl⟩ ⟨Nat.le_of_ble_eq_true rfl, Nat.le_of_ble_eq_true rfl⟩ ⟨Nat.zero_le _, Nat.zero_le _⟩ hl.1 rfl (Nat.le_of_ble_eq_true rfl) dX1_isSame_475 ?_
                        refine lv_iload_n hx hb dX1_isSame_478 rfl (lv_at hl 8 rfl) ?_
                        refine lv_if_ne (tgt := 486) hx hb dX1_isSame_479 (by decide) (fun c10 => ?_) (fun c10 => ?_)
                        · have hT1 : 1 ≤ T := Nat.pos_of_ne_zero (fun z => c10 (by rw [z]; rfl))
                          refine lv_iload hx hb dX1_isSame_486 (lv_at hl 5 rfl) ?_
                          refine lv_i2d hx hb dX1_isSame_488 ?_
                          refine lv_iload_n hx hb dX1_isSame_489 rfl (lv_at hl 8 rfl) ?_
                          refine lv_i2d hx hb dX1_isSame_490 ?_
                          refine lv_ddiv hx hb dX1_isSame_491 (by rw [← hJ.sp]; exact (hJ.mn hT1).1) ?_
                          refine lv_dcmp hx hb dX1_isSame_492 ?_
                          refine lv_if_ne (tgt := 500) hx hb dX1_isSame_493 (by decide) (fun c11 => ?_) (fun c11 => ?_)
                          · exfalso; exact c11 (by unfold bMe; rw [if_neg (by omega), ← hJ.sp, (hJ.mn hT1).2]; rfl)
                          · refine lv_iconst (v := 1) hx hb dX1_isSame_496 (by decide) ?_
                            refine lv_goto (tgt := 501) hx hb dX1_isSame_497 (by decide) ?_
                            exact rd_z hC hr hlocks (rfl) dX1_isSame_501 (by rfl)
                        · have hT0 : T = 0 := (nI_eq (a := T) (b := 0) (by omega) (by omega)).mp c10
                          refine lv_dconst0 hx hb dX1_isSame_482 ?_
                          refine lv_goto (tgt := 492) hx hb dX1_isSame_483 (by decide) ?_
                          refine lv_dcmp hx hb dX1_isSame_492 ?_
                          refine lv_if_ne (tgt := 500) hx hb dX1_isSame_493 (by decide) (fun c12 => ?_) (fun c12 => ?_)
                          · exfalso; exact c12 (by unfold bMe; rw [if_pos (by omega), d00]; rfl)
                          · refine lv_iconst (v := 1) hx hb dX1_isSame_496 (by decide) ?_
                            refine lv_goto (tgt := 501) hx hb dX1_isSame_497 (by decide) ?_
                            exact rd_z hC hr hlocks (rfl) dX1_isSame_501 (by rfl)
              · exfalso; omega
            · intro r hr rh ls hl
              refine lv_iload hx hb dX1_isSame_274 (lv_at hl 0 rfl) ?_
              refine lv_iload_n hx hb dX1_isSame_276 rfl (lv_at hl 9 rfl) ?_
              refine jge (i := r) (j := R) (tgt := 438) hC dX1_isSame_277 (by decide) rfl rfl (by omega) (by omega) (fun c13 => ?_) (fun c13 => ?_)
              · exfalso; omega
              · refine lv_iconst (v := 0) hx hb dX1_isSame_280 (by decide) ?_
                refine lv_istore (lv' := [(10, .int (0)), (9, .int (nI r)), (7, .int (oI (amx (sWo N T) r))), (8, .int (sma 0 (fun r => if 0 ≤ N 5 r then 0 else 1) r)), (4, .int (oI (amx (sPr N) T))), (5, .int (oI (amn (sUn N) T))), (6, .int (sma 0 (sPr N) T)), (0, .ref (b 0)), (1, .ref (a 13)), (2, .int (nI T)), (3, .int (nI R))]) hx hb dX1_isSame_281 hl (by decide) rfl (fun ls hl => ?_)
                refine lv_iconst (v := 0) hx hb dX1_isSame_283 (by decide) ?_
                refine lv_istore (lv' := [(11, .int (0)), (10, .int (0)), (9, .int (nI r)), (7, .int (oI (amx (sWo N T) r))), (8, .int (sma 0 (fun r => if 0 ≤ N 5 r then 0 else 1) r)), (4, .int (oI (amx (sPr N) T))), (5, .int (oI (amn (sUn N) T))), (6, .int (sma 0 (sPr N) T)), (0, .ref (b 0)), (1, .ref (a 13)), (2, .int (nI T)), (3, .int (nI R))]) hx hb dX1_isSame_284 hl (by decide) rfl (fun ls hl => ?_)
                refine loopU (P := fun j => ∀ ls : Array Slot, lv_has ls 13 [(11, .int (nI j)), (10, .int (sma 0 (fun t => if 0 ≤ N (7 + r) t then 0 else 1) j)), (9, .int (nI r)), (7, .int (oI (amx (sWo N T) r))), (8, .int (sma 0 (fun r => if 0 ≤ N 5 r then 0 else 1) r)), (4, .int (oI (amx (sPr N) T))), (5, .int (oI (amn (sUn N) T))), (6, .int (sma 0 (sPr N) T)), (0, .ref (b 0)), (1, .ref (a 13)), (2, .int (nI T)), (3, .int (nI R))] → W p l e ({ frames := 6, cells := 0, slots := 0, locals := 140 } : Room) s m args below meth c s.heap [] 0 0 (MQ below (k2_QcV (.int 1)) args s 0 0 (fun _ => False)) (F0 m 286 ls [])) (T) ?_ ?_ 0 (by omega) ls (by first | exact lv_sub hl [0, 1, 2, 3, 4, 5, 6, 7, 8, 9, 10, 11] rfl | (simpa using lv_sub hl [0, 1, 2, 3, 4, 5, 6, 7, 8, 9, 10, 11] rfl))
                · intro ls hl
                  refine lv_iload hx hb dX1_isSame_286 (lv_at hl 0 rfl) ?_
                  refine lv_iload_n hx hb dX1_isSame_288 rfl (lv_at hl 10 rfl) ?_
                  refine jge (i := T) (j := T) (tgt := 344) hC dX1_isSame_289 (by decide) rfl rfl (by omega) (by omega) (fun c14 => ?_) (fun c14 => ?_)
                  · refine lv_iload hx hb dX1_isSame_344 (lv_at hl 4 rfl) ?_
                    refine lv_aload_n hx hb dX1_isSame_346 rfl (lv_at hl 8 rfl) ?_
                    refine gX1_purses hC hN dX1_isSame_347 ?_
                    refine lv_iload hx hb dX1_isSame_350 (lv_at hl 2 rfl) ?_
                    refine lS_pur (r) hC hN rfl (by omega) (by omega) rfl dX1_isSame_352 ?_
                    refine lv_if_ge (tgt := 360) hx hb dX1_isSame_353 (by decide) (fun c15 => ?_) (fun c15 => ?_)
                    · refine lv_iconst (v := 0) hx hb dX1_isSame_360 (by decide) ?_
                      refine lv_iadd hx hb dX1_isSame_361 ?_
                      refine lv_istore (lv' := [(8, .int ((sma 0 (fun r => if 0 ≤ N 5 r then 0 else 1) r) + 0)), (11, .int (nI T)), (10, .int (sma 0 (fun t => if 0 ≤ N (7 + r) t then 0 else 1) T)), (9, .int (nI r)), (7, .int (oI (amx (sWo N T) r))), (4, .int (oI (amx (sPr N) T))), (5, .int (oI (amn (sUn N) T))), (6, .int (sma 0 (sPr N) T)), (0, .ref (b 0)), (1, .ref (a 13)), (2, .int (nI T)), (3, .int (nI R))]) hx hb dX1_isSame_362 hl (by decide) rfl (fun ls hl => ?_)
                      rcases hq7 : amx (sWo N T) r with _ | b7
                      · rw [hq7] at hl
                        have hl : lv_has ls 13 [(8, .int ((sma 0 (fun r => if 0 ≤ N 5 r then 0 else 1) r) + 0)), (11, .int (nI T)), (10, .int (sma 0 (fun t => if 0 ≤ N (7 + r) t then 0 else 1) T)), (9, .int (nI r)), (7, .int (-1)), (4, .int (oI (amx (sPr N) T))), (5, .int (oI (amn (sUn N) T))), (6, .int (sma 0 (sPr N) T)), (0, .ref (b 0)), (1, .ref (a 13)), (2, .int (nI T)), (3, .int (nI R))] := hl
                        refine lv_iload hx hb dX1_isSame_364 (lv_at hl 4 rfl) ?_
                        refine lv_if_lt (tgt := 384) hx hb dX1_isSame_366 (by decide) (fun c16 => ?_) (fun c16 => ?_)
                        · refine lv_iload hx hb dX1_isSame_384 (lv_at hl 3 rfl) ?_
                          refine lv_istore (lv' := [(7, .int (nI r)), (8, .int ((sma 0 (fun r => if 0 ≤ N 5 r then 0 else 1) r) + 0)), (11, .int (nI T)), (10, .int (sma 0 (fun t => if 0 ≤ N (7 + r) t then 0 else 1) T)), (9, .int (nI r)), (4, .int (oI (amx (sPr N) T))), (5, .int (oI (amn (sUn N) T))), (6, .int (sma 0 (sPr N) T)), (0, .ref (b 0)), (1, .ref (a 13)), (2, .int (nI T)), (3, .int (nI R))]) hx hb dX1_isSame_386 hl (by decide) rfl (fun ls hl => ?_)
                          refine lv_aload_n hx hb dX1_isSame_388 rfl (lv_at hl 9 rfl) ?_
                          refine lv_iload hx hb dX1_isSame_389 (lv_at hl 4 rfl) ?_
                          refine k1_X0_purseOf hC (c_X0_purseOf l D cI cQ a S hJ.1 (r := r) (by omega)) hB rfl ⟨rfl, rfl⟩ ⟨Nat.le_of_ble_eq_true rfl, Nat.le_of_ble_eq_true rfl⟩ ⟨Nat.zero_le _, Nat.zero_le _⟩ hl.1 rfl (Nat.le_of_ble_eq_true rfl) dX1_isSame_391 ?_
                          refine lv_aload_n hx hb dX1_isSame_394 rfl (lv_at hl 8 rfl) ?_
                          refine gX1_purses hC hN dX1_isSame_395 ?_
                          refine lv_iload hx hb dX1_isSame_398 (lv_at hl 4 rfl) ?_
                          refine lS_pur (r) hC hN rfl (by omega) (by omega) rfl dX1_isSame_400 ?_
                          refine lv_icmp_ne (tgt := 430) hx hb dX1_isSame_401 (by decide) (fun c17 => ?_) (fun c17 => ?_)
                          · exfalso; exact c17 (hJ.2.1 r hr)
                          · refine lv_aload_n hx hb dX1_isSame_404 rfl (lv_at hl 9 rfl) ?_
                            refine lv_iload hx hb dX1_isSame_405 (lv_at hl 4 rfl) ?_
                            refine k1_X0_worthOf hC (c_X0_worthOf l D cI cQ a S hJ.1 (r := r) (by omega)) hB rfl ⟨rfl, rfl⟩ ⟨Nat.le_of_ble_eq_true rfl, Nat.le_of_ble_eq_true rfl⟩ ⟨Nat.zero_le _, Nat.zero_le _⟩ hl.1 rfl (Nat.le_of_ble_eq_true rfl) dX1_isSame_407 ?_
                            refine lv_aload_n hx hb dX1_isSame_410 rfl (lv_at hl 8 rfl) ?_
                            refine lv_iload hx hb dX1_isSame_411 (lv_at hl 4 rfl) ?_
                            refine k1_X1_worth hC (c_X1_worth l D cI cQ b N hT8 hR6 (r := r) (by omega)) hN rfl ⟨rfl, rfl⟩ ⟨Nat.le_of_ble_eq_true rfl, Nat.le_of_ble_eq_true rfl⟩ ⟨Nat.zero_le _, Nat.zero_le _⟩ hl.1 rfl (Nat.le_of_ble_eq_true rfl) dX1_isSame_413 ?_
                            refine lv_icmp_ne (tgt := 430) hx hb dX1_isSame_416 (by decide) (fun c18 => ?_) (fun c18 => ?_)
                            · exfalso; exact c18 (hJ.wo hr)
                            · refine lv_aload_n hx hb dX1_isSame_419 rfl (lv_at hl 9 rfl) ?_
                              refine lv_iload hx hb dX1_isSame_420 (lv_at hl 4 rfl) ?_
                              refine k1_X0_shortsOf hC (c_X0_shortsOf l D cI cQ a S hJ.1 (r := r) (by omega)) hB rfl ⟨rfl, rfl⟩ ⟨Nat.le_of_ble_eq_true rfl, Nat.le_of_ble_eq_true rfl⟩ ⟨Nat.zero_le _, Nat.zero_le _⟩ hl.1 rfl (Nat.le_of_ble_eq_true rfl) dX1_isSame_422 ?_
                              refine lv_iload hx hb dX1_isSame_425 (lv_at hl 3 rfl) ?_
                              refine lv_icmp_eq (tgt := 432) hx hb dX1_isSame_427 (by decide) (fun c19 => ?_) (fun c19 => ?_)
                              · refine lv_iinc (v := nI (r + 1)) (lv' := [(9, .int (nI (r + 1))), (7, .int (nI r)), (8, .int ((sma 0 (fun r => if 0 ≤ N 5 r then 0 else 1) r) + 0)), (11, .int (nI T)), (10, .int (sma 0 (fun t => if 0 ≤ N (7 + r) t then 0 else 1) T)), (4, .int (oI (amx (sPr N) T))), (5, .int (oI (amn (sUn N) T))), (6, .int (sma 0 (sPr N) T)), (0, .ref (b 0)), (1, .ref (a 13)), (2, .int (nI T)), (3, .int (nI R))]) hx hb dX1_isSame_432 hl (k := 4) rfl (ninc r) (by decide) rfl (fun ls hl => ?_)
                                refine lv_goto (tgt := 274) hx hb dX1_isSame_435 (by decide) ?_
                                have e20 : oI (amx (sWo N T) (r + 1)) = nI r := by rw [amx_none hq7] <;> rfl
                                have e21 : sma 0 (fun r => if 0 ≤ N 5 r then 0 else 1) (r + 1) = (sma 0 (fun r => if 0 ≤ N 5 r then 0 else 1) r) + 0 := by show _ + (if _ then _ else _) = _; rw [if_pos c15] <;> rfl
                                exact rh ls (by rw [e20, e21]; exact lv_sub hl [0, 1, 2, 5, 6, 7, 8, 9, 10, 11] rfl)
                              · exfalso; exact c19 (hJ.sh hr)
                        · exfalso; revert c16; decide
                      · rw [hq7] at hl
                        have hl : lv_has ls 13 [(8, .int ((sma 0 (fun r => if 0 ≤ N 5 r then 0 else 1) r) + 0)), (11, .int (nI T)), (10, .int (sma 0 (fun t => if 0 ≤ N (7 + r) t then 0 else 1) T)), (9, .int (nI r)), (7, .int (nI b7)), (4, .int (oI (amx (sPr N) T))), (5, .int (oI (amn (sUn N) T))), (6, .int (sma 0 (sPr N) T)), (0, .ref (b 0)), (1, .ref (a 13)), (2, .int (nI T)), (3, .int (nI R))] := hl
                        have hb7 := amx_lt r hq7
                        refine lv_iload hx hb dX1_isSame_364 (lv_at hl 4 rfl) ?_
                        refine lv_if_lt (tgt := 384) hx hb dX1_isSame_366 (by decide) (fun c22 => ?_) (fun c22 => ?_)
                        · exfalso; exact absurd c22 (nI_pos (by omega))
                        · refine lv_aload_n hx hb dX1_isSame_369 rfl (lv_at hl 8 rfl) ?_
                          refine lv_iload hx hb dX1_isSame_370 (lv_at hl 3 rfl) ?_
                          refine k1_X1_worth hC (c_X1_worth l D cI cQ b N hT8 hR6 (r := r) (by omega)) hN rfl ⟨rfl, rfl⟩ ⟨Nat.le_of_ble_eq_true rfl, Nat.le_of_ble_eq_true rfl⟩ ⟨Nat.zero_le _, Nat.zero_le _⟩ hl.1 rfl (Nat.le_of_ble_eq_true rfl) dX1_isSame_372 ?_
                          refine lv_aload_n hx hb dX1_isSame_375 rfl (lv_at hl 8 rfl) ?_
                          refine lv_iload hx hb dX1_isSame_376 (lv_at hl 4 rfl) ?_
                          refine k1_X1_worth hC (c_X1_worth l D cI cQ b N hT8 hR6 (r := b7) (by omega)) hN rfl ⟨rfl, rfl⟩ ⟨Nat.le_of_ble_eq_true rfl, Nat.le_of_ble_eq_true rfl⟩ ⟨Nat.zero_le _, Nat.zero_le _⟩ hl.1 rfl (Nat.le_of_ble_eq_true rfl) dX1_isSame_378 ?_
                          refine lv_icmp_le (tgt := 388) hx hb dX1_isSame_381 (by decide) (fun c23 => ?_) (fun c23 => ?_)
                          · refine lv_aload_n hx hb dX1_isSame_388 rfl (lv_at hl 9 rfl) ?_
                            refine lv_iload hx hb dX1_isSame_389 (lv_at hl 3 rfl) ?_
                            refine k1_X0_purseOf hC (c_X0_purseOf l D cI cQ a S hJ.1 (r := r) (by omega)) hB rfl ⟨rfl, rfl⟩ ⟨Nat.le_of_ble_eq_true rfl, Nat.le_of_ble_eq_true rfl⟩ ⟨Nat.zero_le _, Nat.zero_le _⟩ hl.1 rfl (Nat.le_of_ble_eq_true rfl) dX1_isSame_391 ?_
                            refine lv_aload_n hx hb dX1_isSame_394 rfl (lv_at hl 8 rfl) ?_
                            refine gX1_purses hC hN dX1_isSame_395 ?_
                            refine lv_iload hx hb dX1_isSame_398 (lv_at hl 3 rfl) ?_
                            refine lS_pur (r) hC hN rfl (by omega) (by omega) rfl dX1_isSame_400 ?_
                            refine lv_icmp_ne (tgt := 430) hx hb dX1_isSame_401 (by decide) (fun c24 => ?_) (fun c24 => ?_)
                            · exfalso; exact c24 (hJ.2.1 r hr)
                            · refine lv_aload_n hx hb dX1_isSame_404 rfl (lv_at hl 9 rfl) ?_
                              refine lv_iload hx hb dX1_isSame_405 (lv_at hl 3 rfl) ?_
                              refine k1_X0_worthOf hC (c_X0_worthOf l D cI cQ a S hJ.1 (r := r) (by omega)) hB rfl ⟨rfl, rfl⟩ ⟨Nat.le_of_ble_eq_true rfl, Nat.le_of_ble_eq_true rfl⟩ ⟨Nat.zero_le _, Nat.zero_le _⟩ hl.1 rfl (Nat.le_of_ble_eq_true rfl) dX1_isSame_407 ?_
                              refine lv_aload_n hx hb dX1_isSame_410 rfl (lv_at hl 8 rfl) ?_
                              refine lv_iload hx hb dX1_isSame_411 (lv_at hl 3 rfl) ?_
                              refine k1_X1_worth hC (c_X1_worth l D cI cQ b N hT8 hR6 (r := r) (by omega)) hN rfl ⟨rfl, rfl⟩ ⟨Nat.le_of_ble_eq_true rfl, Nat.le_of_ble_eq_true rfl⟩ ⟨Nat.zero_le _, Nat.zero_le _⟩ hl.1 rfl (Nat.le_of_ble_eq_true rfl) dX1_isSame_413 ?_
                              refine lv_icmp_ne (tgt := 430) hx hb dX1_isSame_416 (by decide) (fun c25 => ?_) (fun c25 => ?_)
                              · exfalso; exact c25 (hJ.wo hr)
                              · refine lv_aload_n hx hb dX1_isSame_419 rfl (lv_at hl 9 rfl) ?_
                                refine lv_iload hx hb dX1_isSame_420 (lv_at hl 3 rfl) ?_
                                refine k1_X0_shortsOf hC (c_X0_shortsOf l D cI cQ a S hJ.1 (r := r) (by omega)) hB rfl ⟨rfl, rfl⟩ ⟨Nat.le_of_ble_eq_true rfl, Nat.le_of_ble_eq_true rfl⟩ ⟨Nat.zero_le _, Nat.zero_le _⟩ hl.1 rfl (Nat.le_of_ble_eq_true rfl) dX1_isSame_422 ?_
                                refine lv_iload hx hb dX1_isSame_425 (lv_at hl 2 rfl) ?_
                                refine lv_icmp_eq (tgt := 432) hx hb dX1_isSame_427 (by decide) (fun c26 => ?_) (fun c26 => ?_)
                                · refine lv_iinc (v := nI (r + 1)) (lv' := [(9, .int (nI (r + 1))), (8, .int ((sma 0 (fun r => if 0 ≤ N 5 r then 0 else 1) r) + 0)), (11, .int (nI T)), (10, .int (sma 0 (fun t => if 0 ≤ N (7 + r) t then 0 else 1) T)), (7, .int (nI b7)), (4, .int (oI (amx (sPr N) T))), (5, .int (oI (amn (sUn N) T))), (6, .int (sma 0 (sPr N) T)), (0, .ref (b 0)), (1, .ref (a 13)), (2, .int (nI T)), (3, .int (nI R))]) hx hb dX1_isSame_432 hl (k := 3) rfl (ninc r) (by decide) rfl (fun ls hl => ?_)
                                  refine lv_goto (tgt := 274) hx hb dX1_isSame_435 (by decide) ?_
                                  have e27 : oI (amx (sWo N T) (r + 1)) = nI b7 := by rw [amx_keep hq7 c23] <;> rfl
                                  have e28 : sma 0 (fun r => if 0 ≤ N 5 r then 0 else 1) (r + 1) = (sma 0 (fun r => if 0 ≤ N 5 r then 0 else 1) r) + 0 := by show _ + (if _ then _ else _) = _; rw [if_pos c15] <;> rfl
                                  exact rh ls (by rw [e27, e28]; exact lv_sub hl [0, 4, 1, 5, 6, 7, 8, 9, 10, 11] rfl)
                                · exfalso; exact c26 (hJ.sh hr)
                          · refine lv_iload hx hb dX1_isSame_384 (lv_at hl 3 rfl) ?_
                            refine lv_istore (lv' := [(7, .int (nI r)), (8, .int ((sma 0 (fun r => if 0 ≤ N 5 r then 0 else 1) r) + 0)), (11, .int (nI T)), (10, .int (sma 0 (fun t => if 0 ≤ N (7 + r) t then 0 else 1) T)), (9, .int (nI r)), (4, .int (oI (amx (sPr N) T))), (5, .int (oI (amn (sUn N) T))), (6, .int (sma 0 (sPr N) T)), (0, .ref (b 0)), (1, .ref (a 13)), (2, .int (nI T)), (3, .int (nI R))]) hx hb dX1_isSame_386 hl (by decide) rfl (fun ls hl => ?_)
                            refine lv_aload_n hx hb dX1_isSame_388 rfl (lv_at hl 9 rfl) ?_
                            refine lv_iload hx hb dX1_isSame_389 (lv_at hl 4 rfl) ?_
                            refine k1_X0_purseOf hC (c_X0_purseOf l D cI cQ a S hJ.1 (r := r) (by omega)) hB rfl ⟨rfl, rfl⟩ ⟨Nat.le_of_ble_eq_true rfl, Nat.le_of_ble_eq_true rfl⟩ ⟨Nat.zero_le _, Nat.zero_le _⟩ hl.1 rfl (Nat.le_of_ble_eq_true rfl) dX1_isSame_391 ?_
                            refine lv_aload_n hx hb dX1_isSame_394 rfl (lv_at hl 8 rfl) ?_
                            refine gX1_purses hC hN dX1_isSame_395 ?_
                            refine lv_iload hx hb dX1_isSame_398 (lv_at hl 4 rfl) ?_
                            refine lS_pur (r) hC hN rfl (by omega) (by omega) rfl dX1_isSame_400 ?_
                            refine lv_icmp_ne (tgt := 430) hx hb dX1_isSame_401 (by decide) (fun c29 => ?_) (fun c29 => ?_)
                            · exfalso; exact c29 (hJ.2.1 r hr)
                            · refine lv_aload_n hx hb dX1_isSame_404 rfl (lv_at hl 9 rfl) ?_
                              refine lv_iload hx hb dX1_isSame_405 (lv_at hl 4 rfl) ?_
                              refine k1_X0_worthOf hC (c_X0_worthOf l D cI cQ a S hJ.1 (r := r) (by omega)) hB rfl ⟨rfl, rfl⟩ ⟨Nat.le_of_ble_eq_true rfl, Nat.le_of_ble_eq_true rfl⟩ ⟨Nat.zero_le _, Nat.zero_le _⟩ hl.1 rfl (Nat.le_of_ble_eq_true rfl) dX1_isSame_407 ?_
                              refine lv_aload_n hx hb dX1_isSame_410 rfl (lv_at hl 8 rfl) ?_
                              refine lv_iload hx hb dX1_isSame_411 (lv_at hl 4 rfl) ?_
                              refine k1_X1_worth hC (c_X1_worth l D cI cQ b N hT8 hR6 (r := r) (by omega)) hN rfl ⟨rfl, rfl⟩ ⟨Nat.le_of_ble_eq_true rfl, Nat.le_of_ble_eq_true rfl⟩ ⟨Nat.zero_le _, Nat.zero_le _⟩ hl.1 rfl (Nat.le_of_ble_eq_true rfl) dX1_isSame_413 ?_
                              refine lv_icmp_ne (tgt := 430) hx hb dX1_isSame_416 (by decide) (fun c30 => ?_) (fun c30 => ?_)
                              · exfalso; exact c30 (hJ.wo hr)
                              · refine lv_aload_n hx hb dX1_isSame_419 rfl (lv_at hl 9 rfl) ?_
                                refine lv_iload hx hb dX1_isSame_420 (lv_at hl 4 rfl) ?_
                                refine k1_X0_shortsOf hC (c_X0_shortsOf l D cI cQ a S hJ.1 (r := r) (by omega)) hB rfl ⟨rfl, rfl⟩ ⟨Nat.le_of_ble_eq_true rfl, Nat.le_of_ble_eq_true rfl⟩ ⟨Nat.zero_le _, Nat.zero_le _⟩ hl.1 rfl (Nat.le_of_ble_eq_true rfl) dX1_isSame_422 ?_
                                refine lv_iload hx hb dX1_isSame_425 (lv_at hl 3 rfl) ?_
                                refine lv_icmp_eq (tgt := 432) hx hb dX1_isSame_427 (by decide) (fun c31 => ?_) (fun c31 => ?_)
                                · refine lv_iinc (v := nI (r + 1)) (lv' := [(9, .int (nI (r + 1))), (7, .int (nI r)), (8, .int ((sma 0 (fun r => if 0 ≤ N 5 r then 0 else 1) r) + 0)), (11, .int (nI T)), (10, .int (sma 0 (fun t => if 0 ≤ N (7 + r) t then 0 else 1) T)), (4, .int (oI (amx (sPr N) T))), (5, .int (oI (amn (sUn N) T))), (6, .int (sma 0 (sPr N) T)), (0, .ref (b 0)), (1, .ref (a 13)), (2, .int (nI T)), (3, .int (nI R))]) hx hb dX1_isSame_432 hl (k := 4) rfl (ninc r) (by decide) rfl (fun ls hl => ?_)
                                  refine lv_goto (tgt := 274) hx hb dX1_isSame_435 (by decide) ?_
                                  have e32 : oI (amx (sWo N T) (r + 1)) = nI r := by rw [amx_new hq7 c23] <;> rfl
                                  have e33 : sma 0 (fun r => if 0 ≤ N 5 r then 0 else 1) (r + 1) = (sma 0 (fun r => if 0 ≤ N 5 r then 0 else 1) r) + 0 := by show _ + (if _ then _ else _) = _; rw [if_pos c15] <;> rfl
                                  exact rh ls (by rw [e32, e33]; exact lv_sub hl [0, 1, 2, 5, 6, 7, 8, 9, 10, 11] rfl)
                                · exfalso; exact c31 (hJ.sh hr)
                    · refine lv_iconst (v := 1) hx hb dX1_isSame_356 (by decide) ?_
                      refine lv_goto (tgt := 361) hx hb dX1_isSame_357 (by decide) ?_
                      refine lv_iadd hx hb dX1_isSame_361 ?_
                      refine lv_istore (lv' := [(8, .int ((sma 0 (fun r => if 0 ≤ N 5 r then 0 else 1) r) + 1)), (11, .int (nI T)), (10, .int (sma 0 (fun t => if 0 ≤ N (7 + r) t then 0 else 1) T)), (9, .int (nI r)), (7, .int (oI (amx (sWo N T) r))), (4, .int (oI (amx (sPr N) T))), (5, .int (oI (amn (sUn N) T))), (6, .int (sma 0 (sPr N) T)), (0, .ref (b 0)), (1, .ref (a 13)), (2, .int (nI T)), (3, .int (nI R))]) hx hb dX1_isSame_362 hl (by decide) rfl (fun ls hl => ?_)
                      rcases hq7 : amx (sWo N T) r with _ | b7
                      · rw [hq7] at hl
                        have hl : lv_has ls 13 [(8, .int ((sma 0 (fun r => if 0 ≤ N 5 r then 0 else 1) r) + 1)), (11, .int (nI T)), (10, .int (sma 0 (fun t => if 0 ≤ N (7 + r) t then 0 else 1) T)), (9, .int (nI r)), (7, .int (-1)), (4, .int (oI (amx (sPr N) T))), (5, .int (oI (amn (sUn N) T))), (6, .int (sma 0 (sPr N) T)), (0, .ref (b 0)), (1, .ref (a 13)), (2, .int (nI T)), (3, .int (nI R))] := hl
                        refine lv_iload hx hb dX1_isSame_364 (lv_at hl 4 rfl) ?_
                        refine lv_if_lt (tgt := 384) hx hb dX1_isSame_366 (by decide) (fun c34 => ?_) (fun c34 => ?_)
                        · refine lv_iload hx hb dX1_isSame_384 (lv_at hl 3 rfl) ?_
                          refine lv_istore (lv' := [(7, .int (nI r)), (8, .int ((sma 0 (fun r => if 0 ≤ N 5 r then 0 else 1) r) + 1)), (11, .int (nI T)), (10, .int (sma 0 (fun t => if 0 ≤ N (7 + r) t then 0 else 1) T)), (9, .int (nI r)), (4, .int (oI (amx (sPr N) T))), (5, .int (oI (amn (sUn N) T))), (6, .int (sma 0 (sPr N) T)), (0, .ref (b 0)), (1, .ref (a 13)), (2, .int (nI T)), (3, .int (nI R))]) hx hb dX1_isSame_386 hl (by decide) rfl (fun ls hl => ?_)
                          refine lv_aload_n hx hb dX1_isSame_388 rfl (lv_at hl 9 rfl) ?_
                          refine lv_iload hx hb dX1_isSame_389 (lv_at hl 4 rfl) ?_
                          refine k1_X0_purseOf hC (c_X0_purseOf l D cI cQ a S hJ.1 (r := r) (by omega)) hB rfl ⟨rfl, rfl⟩ ⟨Nat.le_of_ble_eq_true rfl, Nat.le_of_ble_eq_true rfl⟩ ⟨Nat.zero_le _, Nat.zero_le _⟩ hl.1 rfl (Nat.le_of_ble_eq_true rfl) dX1_isSame_391 ?_
                          refine lv_aload_n hx hb dX1_isSame_394 rfl (lv_at hl 8 rfl) ?_
                          refine gX1_purses hC hN dX1_isSame_395 ?_
                          refine lv_iload hx hb dX1_isSame_398 (lv_at hl 4 rfl) ?_
                          refine lS_pur (r) hC hN rfl (by omega) (by omega) rfl dX1_isSame_400 ?_
                          refine lv_icmp_ne (tgt := 430) hx hb dX1_isSame_401 (by decide) (fun c35 => ?_) (fun c35 => ?_)
                          · exfalso; exact c35 (hJ.2.1 r hr)
                          · refine lv_aload_n hx hb dX1_isSame_404 rfl (lv_at hl 9 rfl) ?_
                            refine lv_iload hx hb dX1_isSame_405 (lv_at hl 4 rfl) ?_
                            refine k1_X0_worthOf hC (c_X0_worthOf l D cI cQ a S hJ.1 (r := r) (by omega)) hB rfl ⟨rfl, rfl⟩ ⟨Nat.le_of_ble_eq_true rfl, Nat.le_of_ble_eq_true rfl⟩ ⟨Nat.zero_le _, Nat.zero_le _⟩ hl.1 rfl (Nat.le_of_ble_eq_true rfl) dX1_isSame_407 ?_
                            refine lv_aload_n hx hb dX1_isSame_410 rfl (lv_at hl 8 rfl) ?_
                            refine lv_iload hx hb dX1_isSame_411 (lv_at hl 4 rfl) ?_
                            refine k1_X1_worth hC (c_X1_worth l D cI cQ b N hT8 hR6 (r := r) (by omega)) hN rfl ⟨rfl, rfl⟩ ⟨Nat.le_of_ble_eq_true rfl, Nat.le_of_ble_eq_true rfl⟩ ⟨Nat.zero_le _, Nat.zero_le _⟩ hl.1 rfl (Nat.le_of_ble_eq_true rfl) dX1_isSame_413 ?_
                            refine lv_icmp_ne (tgt := 430) hx hb dX1_isSame_416 (by decide) (fun c36 => ?_) (fun c36 => ?_)
                            · exfalso; exact c36 (hJ.wo hr)
                            · refine lv_aload_n hx hb dX1_isSame_419 rfl (lv_at hl 9 rfl) ?_
                              refine lv_iload hx hb dX1_isSame_420 (lv_at hl 4 rfl) ?_
                              refine k1_X0_shortsOf hC (c_X0_shortsOf l D cI cQ a S hJ.1 (r := r) (by omega)) hB rfl ⟨rfl, rfl⟩ ⟨Nat.le_of_ble_eq_true rfl, Nat.le_of_ble_eq_true rfl⟩ ⟨Nat.zero_le _, Nat.zero_le _⟩ hl.1 rfl (Nat.le_of_ble_eq_true rfl) dX1_isSame_422 ?_
                              refine lv_iload hx hb dX1_isSame_425 (lv_at hl 3 rfl) ?_
                              refine lv_icmp_eq (tgt := 432) hx hb dX1_isSame_427 (by decide) (fun c37 => ?_) (fun c37 => ?_)
                              · refine lv_iinc (v := nI (r + 1)) (lv' := [(9, .int (nI (r + 1))), (7, .int (nI r)), (8, .int ((sma 0 (fun r => if 0 ≤ N 5 r then 0 else 1) r) + 1)), (11, .int (nI T)), (10, .int (sma 0 (fun t => if 0 ≤ N (7 + r) t then 0 else 1) T)), (4, .int (oI (amx (sPr N) T))), (5, .int (oI (amn (sUn N) T))), (6, .int (sma 0 (sPr N) T)), (0, .ref (b 0)), (1, .ref (a 13)), (2, .int (nI T)), (3, .int (nI R))]) hx hb dX1_isSame_432 hl (k := 4) rfl (ninc r) (by decide) rfl (fun ls hl => ?_)
                                refine lv_goto (tgt := 274) hx hb dX1_isSame_435 (by decide) ?_
                                have e38 : oI (amx (sWo N T) (r + 1)) = nI r := by rw [amx_none hq7] <;> rfl
                                have e39 : sma 0 (fun r => if 0 ≤ N 5 r then 0 else 1) (r + 1) = (sma 0 (fun r => if 0 ≤ N 5 r then 0 else 1) r) + 1 := by show _ + (if _ then _ else _) = _; rw [if_neg c15] <;> rfl
                                exact rh ls (by rw [e38, e39]; exact lv_sub hl [0, 1, 2, 5, 6, 7, 8, 9, 10, 11] rfl)
                              · exfalso; exact c37 (hJ.sh hr)
                        · exfalso; revert c34; decide
                      · rw [hq7] at hl
                        have hl : lv_has ls 13 [(8, .int ((sma 0 (fun r => if 0 ≤ N 5 r then 0 else 1) r) + 1)), (11, .int (nI T)), (10, .int (sma 0 (fun t => if 0 ≤ N (7 + r) t then 0 else 1) T)), (9, .int (nI r)), (7, .int (nI b7)), (4, .int (oI (amx (sPr N) T))), (5, .int (oI (amn (sUn N) T))), (6, .int (sma 0 (sPr N) T)), (0, .ref (b 0)), (1, .ref (a 13)), (2, .int (nI T)), (3, .int (nI R))] := hl
                        have hb7 := amx_lt r hq7
                        refine lv_iload hx hb dX1_isSame_364 (lv_at hl 4 rfl) ?_
                        refine lv_if_lt (tgt := 384) hx hb dX1_isSame_366 (by decide) (fun c40 => ?_) (fun c40 => ?_)
                        · exfalso; exact absurd c40 (nI_pos (by omega))
                        · refine lv_aload_n hx hb dX1_isSame_369 rfl (lv_at hl 8 rfl) ?_
                          refine lv_iload hx hb dX1_isSame_370 (lv_at hl 3 rfl) ?_
                          refine k1_X1_worth hC (c_X1_worth l D cI cQ b N hT8 hR6 (r := r) (by omega)) hN rfl ⟨rfl, rfl⟩ ⟨Nat.le_of_ble_eq_true rfl, Nat.le_of_ble_eq_true rfl⟩ ⟨Nat.zero_le _, Nat.zero_le _⟩ hl.1 rfl (Nat.le_of_ble_eq_true rfl) dX1_isSame_372 ?_
                          refine lv_aload_n hx hb dX1_isSame_375 rfl (lv_at hl 8 rfl) ?_
                          refine lv_iload hx hb dX1_isSame_376 (lv_at hl 4 rfl) ?_
                          refine k1_X1_worth hC (c_X1_worth l D cI cQ b N hT8 hR6 (r := b7) (by omega)) hN rfl ⟨rfl, rfl⟩ ⟨Nat.le_of_ble_eq_true rfl, Nat.le_of_ble_eq_true rfl⟩ ⟨Nat.zero_le _, Nat.zero_le _⟩ hl.1 rfl (Nat.le_of_ble_eq_true rfl) dX1_isSame_378 ?_
                          refine lv_icmp_le (tgt := 388) hx hb dX1_isSame_381 (by decide) (fun c41 => ?_) (fun c41 => ?_)
                          · refine lv_aload_n hx hb dX1_isSame_388 rfl (lv_at hl 9 rfl) ?_
                            refine lv_iload hx hb dX1_isSame_389 (lv_at hl 3 rfl) ?_
                            refine k1_X0_purseOf hC (c_X0_purseOf l D cI cQ a S hJ.1 (r := r) (by omega)) hB rfl ⟨rfl, rfl⟩ ⟨Nat.le_of_ble_eq_true rfl, Nat.le_of_ble_eq_true rfl⟩ ⟨Nat.zero_le _, Nat.zero_le _⟩ hl.1 rfl (Nat.le_of_ble_eq_true rfl) dX1_isSame_391 ?_
                            refine lv_aload_n hx hb dX1_isSame_394 rfl (lv_at hl 8 rfl) ?_
                            refine gX1_purses hC hN dX1_isSame_395 ?_
                            refine lv_iload hx hb dX1_isSame_398 (lv_at hl 3 rfl) ?_
                            refine lS_pur (r) hC hN rfl (by omega) (by omega) rfl dX1_isSame_400 ?_
                            refine lv_icmp_ne (tgt := 430) hx hb dX1_isSame_401 (by decide) (fun c42 => ?_) (fun c42 => ?_)
                            · exfalso; exact c42 (hJ.2.1 r hr)
                            · refine lv_aload_n hx hb dX1_isSame_404 rfl (lv_at hl 9 rfl) ?_
                              refine lv_iload hx hb dX1_isSame_405 (lv_at hl 3 rfl) ?_
                              refine k1_X0_worthOf hC (c_X0_worthOf l D cI cQ a S hJ.1 (r := r) (by omega)) hB rfl ⟨rfl, rfl⟩ ⟨Nat.le_of_ble_eq_true rfl, Nat.le_of_ble_eq_true rfl⟩ ⟨Nat.zero_le _, Nat.zero_le _⟩ hl.1 rfl (Nat.le_of_ble_eq_true rfl) dX1_isSame_407 ?_
                              refine lv_aload_n hx hb dX1_isSame_410 rfl (lv_at hl 8 rfl) ?_
                              refine lv_iload hx hb dX1_isSame_411 (lv_at hl 3 rfl) ?_
                              refine k1_X1_worth hC (c_X1_worth l D cI cQ b N hT8 hR6 (r := r) (by omega)) hN rfl ⟨rfl, rfl⟩ ⟨Nat.le_of_ble_eq_true rfl, Nat.le_of_ble_eq_true rfl⟩ ⟨Nat.zero_le _, Nat.zero_le _⟩ hl.1 rfl (Nat.le_of_ble_eq_true rfl) dX1_isSame_413 ?_
                              refine lv_icmp_ne (tgt := 430) hx hb dX1_isSame_416 (by decide) (fun c43 => ?_) (fun c43 => ?_)
                              · exfalso; exact c43 (hJ.wo hr)
                              · refine lv_aload_n hx hb dX1_isSame_419 rfl (lv_at hl 9 rfl) ?_
                                refine lv_iload hx hb dX1_isSame_420 (lv_at hl 3 rfl) ?_
                                refine k1_X0_shortsOf hC (c_X0_shortsOf l D cI cQ a S hJ.1 (r := r) (by omega)) hB rfl ⟨rfl, rfl⟩ ⟨Nat.le_of_ble_eq_true rfl, Nat.le_of_ble_eq_true rfl⟩ ⟨Nat.zero_le _, Nat.zero_le _⟩ hl.1 rfl (Nat.le_of_ble_eq_true rfl) dX1_isSame_422 ?_
                                refine lv_iload hx hb dX1_isSame_425 (lv_at hl 2 rfl) ?_
                                refine lv_icmp_eq (tgt := 432) hx hb dX1_isSame_427 (by decide) (fun c44 => ?_) (fun c44 => ?_)
                                · refine lv_iinc (v := nI (r + 1)) (lv' := [(9, .int (nI (r + 1))), (8, .int ((sma 0 (fun r => if 0 ≤ N 5 r then 0 else 1) r) + 1)), (11, .int (nI T)), (10, .int (sma 0 (fun t => if 0 ≤ N (7 + r) t then 0 else 1) T)), (7, .int (nI b7)), (4, .int (oI (amx (sPr N) T))), (5, .int (oI (amn (sUn N) T))), (6, .int (sma 0 (sPr N) T)), (0, .ref (b 0)), (1, .ref (a 13)), (2, .int (nI T)), (3, .int (nI R))]) hx hb dX1_isSame_432 hl (k := 3) rfl (ninc r) (by decide) rfl (fun ls hl => ?_)
                                  refine lv_goto (tgt := 274) hx hb dX1_isSame_435 (by decide) ?_
                                  have e45 : oI (amx (sWo N T) (r + 1)) = nI b7 := by rw [amx_keep hq7 c41] <;> rfl
                                  have e46 : sma 0 (fun r => if 0 ≤ N 5 r then 0 else 1) (r + 1) = (sma 0 (fun r => if 0 ≤ N 5 r then 0 else 1) r) + 1 := by show _ + (if _ then _ else _) = _; rw [if_neg c15] <;> rfl
                                  exact rh ls (by rw [e45, e46]; exact lv_sub hl [0, 4, 1, 5, 6, 7, 8, 9, 10, 11] rfl)
                                · exfalso; exact c44 (hJ.sh hr)
                          · refine lv_iload hx hb dX1_isSame_384 (lv_at hl 3 rfl) ?_
                            refine lv_istore (lv' := [(7, .int (nI r)), (8, .int ((sma 0 (fun r => if 0 ≤ N 5 r then 0 else 1) r) + 1)), (11, .int (nI T)), (10, .int (sma 0 (fun t => if 0 ≤ N (7 + r) t then 0 else 1) T)), (9, .int (nI r)), (4, .int (oI (amx (sPr N) T))), (5, .int (oI (amn (sUn N) T))), (6, .int (sma 0 (sPr N) T)), (0, .ref (b 0)), (1, .ref (a 13)), (2, .int (nI T)), (3, .int (nI R))]) hx hb dX1_isSame_386 hl (by decide) rfl (fun ls hl => ?_)
                            refine lv_aload_n hx hb dX1_isSame_388 rfl (lv_at hl 9 rfl) ?_
                            refine lv_iload hx hb dX1_isSame_389 (lv_at hl 4 rfl) ?_
                            refine k1_X0_purseOf hC (c_X0_purseOf l D cI cQ a S hJ.1 (r := r) (by omega)) hB rfl ⟨rfl, rfl⟩ ⟨Nat.le_of_ble_eq_true rfl, Nat.le_of_ble_eq_true rfl⟩ ⟨Nat.zero_le _, Nat.zero_le _⟩ hl.1 rfl (Nat.le_of_ble_eq_true rfl) dX1_isSame_391 ?_
                            refine lv_aload_n hx hb dX1_isSame_394 rfl (lv_at hl 8 rfl) ?_
                            refine gX1_purses hC hN dX1_isSame_395 ?_
                            refine lv_iload hx hb dX1_isSame_398 (lv_at hl 4 rfl) ?_
                            refine lS_pur (r) hC hN rfl (by omega) (by omega) rfl dX1_isSame_400 ?_
                            refine lv_icmp_ne (tgt := 430) hx hb dX1_isSame_401 (by decide) (fun c47 => ?_) (fun c47 => ?_)
                            · exfalso; exact c47 (hJ.2.1 r hr)
                            · refine lv_aload_n hx hb dX1_isSame_404 rfl (lv_at hl 9 rfl) ?_
                              refine lv_iload hx hb dX1_isSame_405 (lv_at hl 4 rfl) ?_
                              refine k1_X0_worthOf hC (c_X0_worthOf l D cI cQ a S hJ.1 (r := r) (by omega)) hB rfl ⟨rfl, rfl⟩ ⟨Nat.le_of_ble_eq_true rfl, Nat.le_of_ble_eq_true rfl⟩ ⟨Nat.zero_le _, Nat.zero_le _⟩ hl.1 rfl (Nat.le_of_ble_eq_true rfl) dX1_isSame_407 ?_
                              refine lv_aload_n hx hb dX1_isSame_410 rfl (lv_at hl 8 rfl) ?_
                              refine lv_iload hx hb dX1_isSame_411 (lv_at hl 4 rfl) ?_
                              refine k1_X1_worth hC (c_X1_worth l D cI cQ b N hT8 hR6 (r := r) (by omega)) hN rfl ⟨rfl, rfl⟩ ⟨Nat.le_of_ble_eq_true rfl, Nat.le_of_ble_eq_true rfl⟩ ⟨Nat.zero_le _, Nat.zero_le _⟩ hl.1 rfl (Nat.le_of_ble_eq_true rfl) dX1_isSame_413 ?_
                              refine lv_icmp_ne (tgt := 430) hx hb dX1_isSame_416 (by decide) (fun c48 => ?_) (fun c48 => ?_)
                              · exfalso; exact c48 (hJ.wo hr)
                              · refine lv_aload_n hx hb dX1_isSame_419 rfl (lv_at hl 9 rfl) ?_
                                refine lv_iload hx hb dX1_isSame_420 (lv_at hl 4 rfl) ?_
                                refine k1_X0_shortsOf hC (c_X0_shortsOf l D cI cQ a S hJ.1 (r := r) (by omega)) hB rfl ⟨rfl, rfl⟩ ⟨Nat.le_of_ble_eq_true rfl, Nat.le_of_ble_eq_true rfl⟩ ⟨Nat.zero_le _, Nat.zero_le _⟩ hl.1 rfl (Nat.le_of_ble_eq_true rfl) dX1_isSame_422 ?_
                                refine lv_iload hx hb dX1_isSame_425 (lv_at hl 3 rfl) ?_
                                refine lv_icmp_eq (tgt := 432) hx hb dX1_isSame_427 (by decide) (fun c49 => ?_) (fun c49 => ?_)
                                · refine lv_iinc (v := nI (r + 1)) (lv' := [(9, .int (nI (r + 1))), (7, .int (nI r)), (8, .int ((sma 0 (fun r => if 0 ≤ N 5 r then 0 else 1) r) + 1)), (11, .int (nI T)), (10, .int (sma 0 (fun t => if 0 ≤ N (7 + r) t then 0 else 1) T)), (4, .int (oI (amx (sPr N) T))), (5, .int (oI (amn (sUn N) T))), (6, .int (sma 0 (sPr N) T)), (0, .ref (b 0)), (1, .ref (a 13)), (2, .int (nI T)), (3, .int (nI R))]) hx hb dX1_isSame_432 hl (k := 4) rfl (ninc r) (by decide) rfl (fun ls hl => ?_)
                                  refine lv_goto (tgt := 274) hx hb dX1_isSame_435 (by decide) ?_
                                  have e50 : oI (amx (sWo N T) (r + 1)) = nI r := by rw [amx_new hq7 c41] <;> rfl
                                  have e51 : sma 0 (fun r => if 0 ≤ N 5 r then 0 else 1) (r + 1) = (sma 0 (fun r => if 0 ≤ N 5 r then 0 else 1) r) + 1 := by show _ + (if _ then _ else _) = _; rw [if_neg c15] <;> rfl
                                  exact rh ls (by rw [e50, e51]; exact lv_sub hl [0, 1, 2, 5, 6, 7, 8, 9, 10, 11] rfl)
                                · exfalso; exact c49 (hJ.sh hr)
                  · exfalso; omega
                · intro j hj jh ls hl
                  refine lv_iload hx hb dX1_isSame_286 (lv_at hl 0 rfl) ?_
                  refine lv_iload_n hx hb dX1_isSame_288 rfl (lv_at hl 10 rfl) ?_
                  refine jge (i := j) (j := T) (tgt := 344) hC dX1_isSame_289 (by decide) rfl rfl (by omega) (by omega) (fun c52 => ?_) (fun c52 => ?_)
                  · exfalso; omega
                  · refine lv_iload hx hb dX1_isSame_292 (lv_at hl 1 rfl) ?_
                    refine lv_aload_n hx hb dX1_isSame_294 rfl (lv_at hl 8 rfl) ?_
                    refine gX1_held hC hN dX1_isSame_295 ?_
                    refine lv_iload hx hb dX1_isSame_298 (lv_at hl 2 rfl) ?_
                    refine lS_hr (r) hC hN rfl (by omega) dX1_isSame_300 ?_
                    refine lv_iload hx hb dX1_isSame_301 (lv_at hl 0 rfl) ?_
                    refine lS_held (r) (j) hC hN (by omega) rfl (by omega) rfl dX1_isSame_303 ?_
                    refine lv_if_ge (tgt := 311) hx hb dX1_isSame_304 (by decide) (fun c53 => ?_) (fun c53 => ?_)
                    · refine lv_iconst (v := 0) hx hb dX1_isSame_311 (by decide) ?_
                      refine lv_iadd hx hb dX1_isSame_312 ?_
                      refine lv_istore (lv' := [(10, .int ((sma 0 (fun t => if 0 ≤ N (7 + r) t then 0 else 1) j) + 0)), (11, .int (nI j)), (9, .int (nI r)), (7, .int (oI (amx (sWo N T) r))), (8, .int (sma 0 (fun r => if 0 ≤ N 5 r then 0 else 1) r)), (4, .int (oI (amx (sPr N) T))), (5, .int (oI (amn (sUn N) T))), (6, .int (sma 0 (sPr N) T)), (0, .ref (b 0)), (1, .ref (a 13)), (2, .int (nI T)), (3, .int (nI R))]) hx hb dX1_isSame_313 hl (by decide) rfl (fun ls hl => ?_)
                      refine lv_aload_n hx hb dX1_isSame_315 rfl (lv_at hl 9 rfl) ?_
                      refine lv_iload hx hb dX1_isSame_316 (lv_at hl 2 rfl) ?_
                      refine lv_iload hx hb dX1_isSame_318 (lv_at hl 1 rfl) ?_
                      refine k1_X0_holds hC (c_X0_holds l D cI cQ a S hJ.1 (r := r) (t := j) (by omega) (by omega)) hB rfl ⟨rfl, rfl⟩ ⟨Nat.le_of_ble_eq_true rfl, Nat.le_of_ble_eq_true rfl⟩ ⟨Nat.zero_le _, Nat.zero_le _⟩ hl.1 rfl (Nat.le_of_ble_eq_true rfl) dX1_isSame_320 ?_
                      refine lv_aload_n hx hb dX1_isSame_323 rfl (lv_at hl 8 rfl) ?_
                      refine gX1_held hC hN dX1_isSame_324 ?_
                      refine lv_iload hx hb dX1_isSame_327 (lv_at hl 2 rfl) ?_
                      refine lS_hr (r) hC hN rfl (by omega) dX1_isSame_329 ?_
                      refine lv_iload hx hb dX1_isSame_330 (lv_at hl 1 rfl) ?_
                      refine lS_held (r) (j) hC hN (by omega) rfl (by omega) rfl dX1_isSame_332 ?_
                      refine lv_icmp_eq (tgt := 338) hx hb dX1_isSame_333 (by decide) (fun c54 => ?_) (fun c54 => ?_)
                      · refine lv_iinc (v := nI (j + 1)) (lv' := [(11, .int (nI (j + 1))), (10, .int ((sma 0 (fun t => if 0 ≤ N (7 + r) t then 0 else 1) j) + 0)), (9, .int (nI r)), (7, .int (oI (amx (sWo N T) r))), (8, .int (sma 0 (fun r => if 0 ≤ N 5 r then 0 else 1) r)), (4, .int (oI (amx (sPr N) T))), (5, .int (oI (amn (sUn N) T))), (6, .int (sma 0 (sPr N) T)), (0, .ref (b 0)), (1, .ref (a 13)), (2, .int (nI T)), (3, .int (nI R))]) hx hb dX1_isSame_338 hl (k := 1) rfl (ninc j) (by decide) rfl (fun ls hl => ?_)
                        refine lv_goto (tgt := 286) hx hb dX1_isSame_341 (by decide) ?_
                        have e55 : sma 0 (fun t => if 0 ≤ N (7 + r) t then 0 else 1) (j + 1) = (sma 0 (fun t => if 0 ≤ N (7 + r) t then 0 else 1) j) + 0 := by show _ + (if _ then _ else _) = _; rw [if_pos c53] <;> rfl
                        exact jh ls (by rw [e55]; exact lv_sub hl [0, 1, 2, 3, 4, 5, 6, 7, 8, 9, 10, 11] rfl)
                      · exfalso; exact c54 (hJ.held (by omega) (by omega))
                    · refine lv_iconst (v := 1) hx hb dX1_isSame_307 (by decide) ?_
                      refine lv_goto (tgt := 312) hx hb dX1_isSame_308 (by decide) ?_
                      refine lv_iadd hx hb dX1_isSame_312 ?_
                      refine lv_istore (lv' := [(10, .int ((sma 0 (fun t => if 0 ≤ N (7 + r) t then 0 else 1) j) + 1)), (11, .int (nI j)), (9, .int (nI r)), (7, .int (oI (amx (sWo N T) r))), (8, .int (sma 0 (fun r => if 0 ≤ N 5 r then 0 else 1) r)), (4, .int (oI (amx (sPr N) T))), (5, .int (oI (amn (sUn N) T))), (6, .int (sma 0 (sPr N) T)), (0, .ref (b 0)), (1, .ref (a 13)), (2, .int (nI T)), (3, .int (nI R))]) hx hb dX1_isSame_313 hl (by decide) rfl (fun ls hl => ?_)
                      refine lv_aload_n hx hb dX1_isSame_315 rfl (lv_at hl 9 rfl) ?_
                      refine lv_iload hx hb dX1_isSame_316 (lv_at hl 2 rfl) ?_
                      refine lv_iload hx hb dX1_isSame_318 (lv_at hl 1 rfl) ?_
                      refine k1_X0_holds hC (c_X0_holds l D cI cQ a S hJ.1 (r := r) (t := j) (by omega) (by omega)) hB rfl ⟨rfl, rfl⟩ ⟨Nat.le_of_ble_eq_true rfl, Nat.le_of_ble_eq_true rfl⟩ ⟨Nat.zero_le _, Nat.zero_le _⟩ hl.1 rfl (Nat.le_of_ble_eq_true rfl) dX1_isSame_320 ?_
                      refine lv_aload_n hx hb dX1_isSame_323 rfl (lv_at hl 8 rfl) ?_
                      refine gX1_held hC hN dX1_isSame_324 ?_
                      refine lv_iload hx hb dX1_isSame_327 (lv_at hl 2 rfl) ?_
                      refine lS_hr (r) hC hN rfl (by omega) dX1_isSame_329 ?_
                      refine lv_iload hx hb dX1_isSame_330 (lv_at hl 1 rfl) ?_
                      refine lS_held (r) (j) hC hN (by omega) rfl (by omega) rfl dX1_isSame_332 ?_
                      refine lv_icmp_eq (tgt := 338) hx hb dX1_isSame_333 (by decide) (fun c56 => ?_) (fun c56 => ?_)
                      · refine lv_iinc (v := nI (j + 1)) (lv' := [(11, .int (nI (j + 1))), (10, .int ((sma 0 (fun t => if 0 ≤ N (7 + r) t then 0 else 1) j) + 1)), (9, .int (nI r)), (7, .int (oI (amx (sWo N T) r))), (8, .int (sma 0 (fun r => if 0 ≤ N 5 r then 0 else 1) r)), (4, .int (oI (amx (sPr N) T))), (5, .int (oI (amn (sUn N) T))), (6, .int (sma 0 (sPr N) T)), (0, .ref (b 0)), (1, .ref (a 13)), (2, .int (nI T)), (3, .int (nI R))]) hx hb dX1_isSame_338 hl (k := 1) rfl (ninc j) (by decide) rfl (fun ls hl => ?_)
                        refine lv_goto (tgt := 286) hx hb dX1_isSame_341 (by decide) ?_
                        have e57 : sma 0 (fun t => if 0 ≤ N (7 + r) t then 0 else 1) (j + 1) = (sma 0 (fun t => if 0 ≤ N (7 + r) t then 0 else 1) j) + 1 := by show _ + (if _ then _ else _) = _; rw [if_neg c53] <;> rfl
                        exact jh ls (by rw [e57]; exact lv_sub hl [0, 1, 2, 3, 4, 5, 6, 7, 8, 9, 10, 11] rfl)
                      · exfalso; exact c56 (hJ.held (by omega) (by omega))
          · exfalso; omega
        · intro i hi ih ls hl
          refine lv_iload hx hb dX1_isSame_53 (lv_at hl 0 rfl) ?_
          refine lv_iload_n hx hb dX1_isSame_55 rfl (lv_at hl 6 rfl) ?_
          refine jge (i := i) (j := T) (tgt := 265) hC dX1_isSame_56 (by decide) rfl rfl (by omega) (by omega) (fun c58 => ?_) (fun c58 => ?_)
          · exfalso; omega
          · refine lv_iconst (v := 0) hx hb dX1_isSame_59 (by decide) ?_
            refine lv_istore (lv' := [(8, .int (0)), (7, .int (nI i)), (4, .int (oI (amx (sPr N) i))), (5, .int (oI (amn (sUn N) i))), (6, .int (sma 0 (sPr N) i)), (0, .ref (b 0)), (1, .ref (a 13)), (2, .int (nI T)), (3, .int (nI R))]) hx hb dX1_isSame_60 hl (by decide) rfl (fun ls hl => ?_)
            refine lv_aload_n hx hb dX1_isSame_62 rfl (lv_at hl 5 rfl) ?_
            refine gX1_held hC hN dX1_isSame_63 ?_
            refine lv_astore (lv' := [(9, .ref (b 3)), (8, .int (0)), (7, .int (nI i)), (4, .int (oI (amx (sPr N) i))), (5, .int (oI (amn (sUn N) i))), (6, .int (sma 0 (sPr N) i)), (0, .ref (b 0)), (1, .ref (a 13)), (2, .int (nI T)), (3, .int (nI R))]) hx hb dX1_isSame_66 hl (by decide) rfl (fun ls hl => ?_)
            refine lv_aload hx hb dX1_isSame_68 (lv_at hl 0 rfl) ?_
            refine nS_held hC hN dX1_isSame_70 ?_
            refine lv_istore (lv' := [(10, .int (nI 6)), (9, .ref (b 3)), (8, .int (0)), (7, .int (nI i)), (4, .int (oI (amx (sPr N) i))), (5, .int (oI (amn (sUn N) i))), (6, .int (sma 0 (sPr N) i)), (0, .ref (b 0)), (1, .ref (a 13)), (2, .int (nI T)), (3, .int (nI R))]) hx hb dX1_isSame_71 hl (by decide) rfl (fun ls hl => ?_)
            refine lv_iconst (v := 0) hx hb dX1_isSame_73 (by decide) ?_
            refine lv_istore (lv' := [(11, .int (0)), (10, .int (nI 6)), (9, .ref (b 3)), (8, .int (0)), (7, .int (nI i)), (4, .int (oI (amx (sPr N) i))), (5, .int (oI (amn (sUn N) i))), (6, .int (sma 0 (sPr N) i)), (0, .ref (b 0)), (1, .ref (a 13)), (2, .int (nI T)), (3, .int (nI R))]) hx hb dX1_isSame_74 hl (by decide) rfl (fun ls hl => ?_)
            refine loopU (P := fun j => ∀ ls : Array Slot, lv_has ls 13 [(11, .int (nI j)), (8, .int (sma 0 (fun r => N (7 + r) i) j)), (9, .ref (b 3)), (10, .int (nI 6)), (7, .int (nI i)), (4, .int (oI (amx (sPr N) i))), (5, .int (oI (amn (sUn N) i))), (6, .int (sma 0 (sPr N) i)), (0, .ref (b 0)), (1, .ref (a 13)), (2, .int (nI T)), (3, .int (nI R))] → W p l e ({ frames := 6, cells := 0, slots := 0, locals := 140 } : Room) s m args below meth c s.heap [] 0 0 (MQ below (k2_QcV (.int 1)) args s 0 0 (fun _ => False)) (F0 m 76 ls [])) (6) ?_ ?_ 0 (by omega) ls (by first | exact lv_sub hl [0, 3, 2, 1, 4, 5, 6, 7, 8, 9, 10, 11] rfl | (simpa using lv_sub hl [0, 3, 2, 1, 4, 5, 6, 7, 8, 9, 10, 11] rfl))
            · intro ls hl
              refine lv_iload hx hb dX1_isSame_76 (lv_at hl 0 rfl) ?_
              refine lv_iload hx hb dX1_isSame_78 (lv_at hl 3 rfl) ?_
              refine jge (i := 6) (j := 6) (tgt := 106) hC dX1_isSame_80 (by decide) rfl rfl (by omega) (by omega) (fun c59 => ?_) (fun c59 => ?_)
              · refine lv_aload_n hx hb dX1_isSame_106 rfl (lv_at hl 9 rfl) ?_
                refine lv_iload hx hb dX1_isSame_107 (lv_at hl 4 rfl) ?_
                refine k1_X0_silenceOf hC (c_X0_silenceOf l D cI cQ a S hJ.1 (t := i) (by omega)) hB rfl ⟨rfl, rfl⟩ ⟨Nat.le_of_ble_eq_true rfl, Nat.le_of_ble_eq_true rfl⟩ ⟨Nat.zero_le _, Nat.zero_le _⟩ hl.1 rfl (Nat.le_of_ble_eq_true rfl) dX1_isSame_109 ?_
                refine lv_aload_n hx hb dX1_isSame_112 rfl (lv_at hl 8 rfl) ?_
                refine gX1_towers hC hN dX1_isSame_113 ?_
                refine lv_iload hx hb dX1_isSame_116 (lv_at hl 4 rfl) ?_
                refine lS_tw (i) hC hN rfl (by omega) (by omega) dX1_isSame_118 ?_
                refine lv_iconst (v := 3) hx hb dX1_isSame_119 (by decide) ?_
                refine lS_row (i) (3) hC hN (by omega) rfl (by omega) rfl dX1_isSame_120 ?_
                refine lv_icmp_ne (tgt := 198) hx hb dX1_isSame_121 (by decide) (fun c60 => ?_) (fun c60 => ?_)
                · exfalso; exact c60 ((hJ.2.2.2.2.1 i hi).1.2.2.1.trans (hJ.2.2.2.2.1 i hi).2.1.2.2.2.symm)
                · refine lv_aload_n hx hb dX1_isSame_124 rfl (lv_at hl 9 rfl) ?_
                  refine lv_iload hx hb dX1_isSame_125 (lv_at hl 4 rfl) ?_
                  refine k1_X0_dovesOn hC (c_X0_dovesOn l D cI cQ a S hJ.1 (t := i) (by omega)) hB rfl ⟨rfl, rfl⟩ ⟨Nat.le_of_ble_eq_true rfl, Nat.le_of_ble_eq_true rfl⟩ ⟨Nat.zero_le _, Nat.zero_le _⟩ hl.1 rfl (Nat.le_of_ble_eq_true rfl) dX1_isSame_127 ?_
                  refine lv_aload_n hx hb dX1_isSame_130 rfl (lv_at hl 8 rfl) ?_
                  refine lv_iload hx hb dX1_isSame_131 (lv_at hl 4 rfl) ?_
                  refine k1_X1_doves hC (c_X1_doves l D cI cQ b N hT8 hR6 (t := i) (by omega)) hN rfl ⟨rfl, rfl⟩ ⟨Nat.le_of_ble_eq_true rfl, Nat.le_of_ble_eq_true rfl⟩ ⟨Nat.zero_le _, Nat.zero_le _⟩ hl.1 rfl (Nat.le_of_ble_eq_true rfl) dX1_isSame_133 ?_
                  refine lv_icmp_ne (tgt := 198) hx hb dX1_isSame_136 (by decide) (fun c61 => ?_) (fun c61 => ?_)
                  · exfalso; exact c61 (hJ.dv (by omega))
                  · refine lv_aload_n hx hb dX1_isSame_139 rfl (lv_at hl 9 rfl) ?_
                    refine lv_iload hx hb dX1_isSame_140 (lv_at hl 4 rfl) ?_
                    refine k1_X0_priceOf hC (c_X0_priceOf l D cI cQ a S hJ.1 (t := i) (by omega)) hB rfl ⟨rfl, rfl⟩ ⟨Nat.le_of_ble_eq_true rfl, Nat.le_of_ble_eq_true rfl⟩ ⟨Nat.zero_le _, Nat.zero_le _⟩ hl.1 rfl (Nat.le_of_ble_eq_true rfl) dX1_isSame_142 ?_
                    refine lv_aload_n hx hb dX1_isSame_145 rfl (lv_at hl 8 rfl) ?_
                    refine lv_iload hx hb dX1_isSame_146 (lv_at hl 4 rfl) ?_
                    refine k1_X1_price hC (c_X1_price l D cI cQ b N hT8 hR6 (t := i) (by omega)) hN rfl ⟨rfl, rfl⟩ ⟨Nat.le_of_ble_eq_true rfl, Nat.le_of_ble_eq_true rfl⟩ ⟨Nat.zero_le _, Nat.zero_le _⟩ hl.1 rfl (Nat.le_of_ble_eq_true rfl) dX1_isSame_148 ?_
                    refine lv_icmp_ne (tgt := 198) hx hb dX1_isSame_151 (by decide) (fun c62 => ?_) (fun c62 => ?_)
                    · exfalso; exact c62 (hJ.prc hi)
                    · refine lv_aload_n hx hb dX1_isSame_154 rfl (lv_at hl 9 rfl) ?_
                      refine lv_iload hx hb dX1_isSame_155 (lv_at hl 4 rfl) ?_
                      refine k1_X0_secondsUntilStroke hC (c_X0_secondsUntilStroke l D cI cQ a S hJ.1 (t := i) (by omega)) hB rfl ⟨rfl, rfl⟩ ⟨Nat.le_of_ble_eq_true rfl, Nat.le_of_ble_eq_true rfl⟩ ⟨Nat.zero_le _, Nat.zero_le _⟩ hl.1 rfl (Nat.le_of_ble_eq_true rfl) dX1_isSame_157 ?_
                      refine lv_aload_n hx hb dX1_isSame_160 rfl (lv_at hl 8 rfl) ?_
                      refine lv_iload hx hb dX1_isSame_161 (lv_at hl 4 rfl) ?_
                      refine k1_X1_until hC (c_X1_until l D cI cQ b N hT8 hR6 (t := i) (by omega) hP) hN rfl ⟨rfl, rfl⟩ ⟨Nat.le_of_ble_eq_true rfl, Nat.le_of_ble_eq_true rfl⟩ ⟨Nat.zero_le _, Nat.zero_le _⟩ hl.1 rfl (Nat.le_of_ble_eq_true rfl) dX1_isSame_163 ?_
                      refine lv_icmp_ne (tgt := 198) hx hb dX1_isSame_166 (by decide) (fun c63 => ?_) (fun c63 => ?_)
                      · exfalso; exact c63 (hJ.s3 hi)
                      · refine lv_aload_n hx hb dX1_isSame_169 rfl (lv_at hl 9 rfl) ?_
                        refine lv_iload hx hb dX1_isSame_170 (lv_at hl 4 rfl) ?_
                        refine k1_X0_strokesOf hC (c_X0_strokesOf l D cI cQ a S hJ.1 (t := i) (by omega)) hB rfl ⟨rfl, rfl⟩ ⟨Nat.le_of_ble_eq_true rfl, Nat.le_of_ble_eq_true rfl⟩ ⟨Nat.zero_le _, Nat.zero_le _⟩ hl.1 rfl (Nat.le_of_ble_eq_true rfl) dX1_isSame_172 ?_
                        refine lv_aload_n hx hb dX1_isSame_175 rfl (lv_at hl 8 rfl) ?_
                        refine gX1_towers hC hN dX1_isSame_176 ?_
                        refine lv_iload hx hb dX1_isSame_179 (lv_at hl 4 rfl) ?_
                        refine lS_tw (i) hC hN rfl (by omega) (by omega) dX1_isSame_181 ?_
                        refine lv_iconst (v := 4) hx hb dX1_isSame_182 (by decide) ?_
                        refine lS_row (i) (4) hC hN (by omega) rfl (by omega) rfl dX1_isSame_183 ?_
                        refine lv_icmp_ne (tgt := 198) hx hb dX1_isSame_184 (by decide) (fun c64 => ?_) (fun c64 => ?_)
                        · exfalso; exact c64 (hJ.2.2.2.2.1 i hi).1.2.2.2.2
                        · refine lv_aload_n hx hb dX1_isSame_187 rfl (lv_at hl 9 rfl) ?_
                          refine lv_iload hx hb dX1_isSame_188 (lv_at hl 4 rfl) ?_
                          refine k1_X0_openSeconds hC (c_X0_openSeconds l D cI cQ a S hJ.1 (t := i) (by omega)) hB rfl ⟨rfl, rfl⟩ ⟨Nat.le_of_ble_eq_true rfl, Nat.le_of_ble_eq_true rfl⟩ ⟨Nat.zero_le _, Nat.zero_le _⟩ hl.1 rfl (Nat.le_of_ble_eq_true rfl) dX1_isSame_190 ?_
                          refine lv_iload hx hb dX1_isSame_193 (lv_at hl 1 rfl) ?_
                          refine lv_icmp_eq (tgt := 200) hx hb dX1_isSame_195 (by decide) (fun c65 => ?_) (fun c65 => ?_)
                          · rcases hq8 : amx (sPr N) i with _ | b8
                            · rw [hq8] at hl
                              have hl : lv_has ls 13 [(11, .int (nI 6)), (8, .int (sma 0 (fun r => N (7 + r) i) 6)), (9, .ref (b 3)), (10, .int (nI 6)), (7, .int (nI i)), (4, .int (-1)), (5, .int (oI (amn (sUn N) i))), (6, .int (sma 0 (sPr N) i)), (0, .ref (b 0)), (1, .ref (a 13)), (2, .int (nI T)), (3, .int (nI R))] := hl
                              refine lv_iload hx hb dX1_isSame_200 (lv_at hl 5 rfl) ?_
                              refine lv_if_lt (tgt := 220) hx hb dX1_isSame_202 (by decide) (fun c66 => ?_) (fun c66 => ?_)
                              · refine lv_iload hx hb dX1_isSame_220 (lv_at hl 4 rfl) ?_
                                refine lv_istore (lv' := [(4, .int (nI i)), (11, .int (nI 6)), (8, .int (sma 0 (fun r => N (7 + r) i) 6)), (9, .ref (b 3)), (10, .int (nI 6)), (7, .int (nI i)), (5, .int (oI (amn (sUn N) i))), (6, .int (sma 0 (sPr N) i)), (0, .ref (b 0)), (1, .ref (a 13)), (2, .int (nI T)), (3, .int (nI R))]) hx hb dX1_isSame_222 hl (by decide) rfl (fun ls hl => ?_)
                                rcases hq9 : amn (sUn N) i with _ | b9
                                · rw [hq9] at hl
                                  have hl : lv_has ls 13 [(4, .int (nI i)), (11, .int (nI 6)), (8, .int (sma 0 (fun r => N (7 + r) i) 6)), (9, .ref (b 3)), (10, .int (nI 6)), (7, .int (nI i)), (5, .int (-1)), (6, .int (sma 0 (sPr N) i)), (0, .ref (b 0)), (1, .ref (a 13)), (2, .int (nI T)), (3, .int (nI R))] := hl
                                  refine lv_iload hx hb dX1_isSame_224 (lv_at hl 6 rfl) ?_
                                  refine lv_if_lt (tgt := 244) hx hb dX1_isSame_226 (by decide) (fun c67 => ?_) (fun c67 => ?_)
                                  · refine lv_iload hx hb dX1_isSame_244 (lv_at hl 5 rfl) ?_
                                    refine lv_istore (lv' := [(5, .int (nI i)), (4, .int (nI i)), (11, .int (nI 6)), (8, .int (sma 0 (fun r => N (7 + r) i) 6)), (9, .ref (b 3)), (10, .int (nI 6)), (7, .int (nI i)), (6, .int (sma 0 (sPr N) i)), (0, .ref (b 0)), (1, .ref (a 13)), (2, .int (nI T)), (3, .int (nI R))]) hx hb dX1_isSame_246 hl (by decide) rfl (fun ls hl => ?_)
                                    refine lv_iload hx hb dX1_isSame_248 (lv_at hl 7 rfl) ?_
                                    refine lv_aload_n hx hb dX1_isSame_250 rfl (lv_at hl 8 rfl) ?_
                                    refine lv_iload hx hb dX1_isSame_251 (lv_at hl 6 rfl) ?_
                                    refine k1_X1_price hC (c_X1_price l D cI cQ b N hT8 hR6 (t := i) (by omega)) hN rfl ⟨rfl, rfl⟩ ⟨Nat.le_of_ble_eq_true rfl, Nat.le_of_ble_eq_true rfl⟩ ⟨Nat.zero_le _, Nat.zero_le _⟩ hl.1 rfl (Nat.le_of_ble_eq_true rfl) dX1_isSame_253 ?_
                                    refine lv_iadd hx hb dX1_isSame_256 ?_
                                    refine lv_istore (lv' := [(6, .int ((sma 0 (sPr N) i) + (sPr N i))), (5, .int (nI i)), (4, .int (nI i)), (11, .int (nI 6)), (8, .int (sma 0 (fun r => N (7 + r) i) 6)), (9, .ref (b 3)), (10, .int (nI 6)), (7, .int (nI i)), (0, .ref (b 0)), (1, .ref (a 13)), (2, .int (nI T)), (3, .int (nI R))]) hx hb dX1_isSame_257 hl (by decide) rfl (fun ls hl => ?_)
                                    refine lv_iinc (v := nI (i + 1)) (lv' := [(7, .int (nI (i + 1))), (6, .int ((sma 0 (sPr N) i) + (sPr N i))), (5, .int (nI i)), (4, .int (nI i)), (11, .int (nI 6)), (8, .int (sma 0 (fun r => N (7 + r) i) 6)), (9, .ref (b 3)), (10, .int (nI 6)), (0, .ref (b 0)), (1, .ref (a 13)), (2, .int (nI T)), (3, .int (nI R))]) hx hb dX1_isSame_259 hl (k := 7) rfl (ninc i) (by decide) rfl (fun ls hl => ?_)
                                    refine lv_goto (tgt := 53) hx hb dX1_isSame_262 (by decide) ?_
                                    have e68 : oI (amx (sPr N) (i + 1)) = nI i := by rw [amx_none hq8] <;> rfl
                                    have e69 : oI (amn (sUn N) (i + 1)) = nI i := by rw [amn_none hq9] <;> rfl
                                    exact ih ls (by rw [e68, e69]; exact lv_sub hl [0, 3, 2, 1, 8, 9, 10, 11] rfl)
                                  · exfalso; revert c67; decide
                                · rw [hq9] at hl
                                  have hl : lv_has ls 13 [(4, .int (nI i)), (11, .int (nI 6)), (8, .int (sma 0 (fun r => N (7 + r) i) 6)), (9, .ref (b 3)), (10, .int (nI 6)), (7, .int (nI i)), (5, .int (nI b9)), (6, .int (sma 0 (sPr N) i)), (0, .ref (b 0)), (1, .ref (a 13)), (2, .int (nI T)), (3, .int (nI R))] := hl
                                  have hb9 := amn_lt i hq9
                                  refine lv_iload hx hb dX1_isSame_224 (lv_at hl 6 rfl) ?_
                                  refine lv_if_lt (tgt := 244) hx hb dX1_isSame_226 (by decide) (fun c70 => ?_) (fun c70 => ?_)
                                  · exfalso; exact absurd c70 (nI_pos (by omega))
                                  · refine lv_aload_n hx hb dX1_isSame_229 rfl (lv_at hl 8 rfl) ?_
                                    refine lv_iload hx hb dX1_isSame_230 (lv_at hl 5 rfl) ?_
                                    refine k1_X1_until hC (c_X1_until l D cI cQ b N hT8 hR6 (t := i) (by omega) hP) hN rfl ⟨rfl, rfl⟩ ⟨Nat.le_of_ble_eq_true rfl, Nat.le_of_ble_eq_true rfl⟩ ⟨Nat.zero_le _, Nat.zero_le _⟩ hl.1 rfl (Nat.le_of_ble_eq_true rfl) dX1_isSame_232 ?_
                                    refine lv_aload_n hx hb dX1_isSame_235 rfl (lv_at hl 8 rfl) ?_
                                    refine lv_iload hx hb dX1_isSame_236 (lv_at hl 6 rfl) ?_
                                    refine k1_X1_until hC (c_X1_until l D cI cQ b N hT8 hR6 (t := b9) (by omega) hP) hN rfl ⟨rfl, rfl⟩ ⟨Nat.le_of_ble_eq_true rfl, Nat.le_of_ble_eq_true rfl⟩ ⟨Nat.zero_le _, Nat.zero_le _⟩ hl.1 rfl (Nat.le_of_ble_eq_true rfl) dX1_isSame_238 ?_
                                    refine lv_icmp_ge (tgt := 248) hx hb dX1_isSame_241 (by decide) (fun c71 => ?_) (fun c71 => ?_)
                                    · refine lv_iload hx hb dX1_isSame_248 (lv_at hl 7 rfl) ?_
                                      refine lv_aload_n hx hb dX1_isSame_250 rfl (lv_at hl 8 rfl) ?_
                                      refine lv_iload hx hb dX1_isSame_251 (lv_at hl 5 rfl) ?_
                                      refine k1_X1_price hC (c_X1_price l D cI cQ b N hT8 hR6 (t := i) (by omega)) hN rfl ⟨rfl, rfl⟩ ⟨Nat.le_of_ble_eq_true rfl, Nat.le_of_ble_eq_true rfl⟩ ⟨Nat.zero_le _, Nat.zero_le _⟩ hl.1 rfl (Nat.le_of_ble_eq_true rfl) dX1_isSame_253 ?_
                                      refine lv_iadd hx hb dX1_isSame_256 ?_
                                      refine lv_istore (lv' := [(6, .int ((sma 0 (sPr N) i) + (sPr N i))), (4, .int (nI i)), (11, .int (nI 6)), (8, .int (sma 0 (fun r => N (7 + r) i) 6)), (9, .ref (b 3)), (10, .int (nI 6)), (7, .int (nI i)), (5, .int (nI b9)), (0, .ref (b 0)), (1, .ref (a 13)), (2, .int (nI T)), (3, .int (nI R))]) hx hb dX1_isSame_257 hl (by decide) rfl (fun ls hl => ?_)
                                      refine lv_iinc (v := nI (i + 1)) (lv' := [(7, .int (nI (i + 1))), (6, .int ((sma 0 (sPr N) i) + (sPr N i))), (4, .int (nI i)), (11, .int (nI 6)), (8, .int (sma 0 (fun r => N (7 + r) i) 6)), (9, .ref (b 3)), (10, .int (nI 6)), (5, .int (nI b9)), (0, .ref (b 0)), (1, .ref (a 13)), (2, .int (nI T)), (3, .int (nI R))]) hx hb dX1_isSame_259 hl (k := 6) rfl (ninc i) (by decide) rfl (fun ls hl => ?_)
                                      refine lv_goto (tgt := 53) hx hb dX1_isSame_262 (by decide) ?_
                                      have e72 : oI (amx (sPr N) (i + 1)) = nI i := by rw [amx_none hq8] <;> rfl
                                      have e73 : oI (amn (sUn N) (i + 1)) = nI b9 := by rw [amn_keep hq9 c71] <;> rfl
                                      exact ih ls (by rw [e72, e73]; exact lv_sub hl [0, 2, 7, 1, 8, 9, 10, 11] rfl)
                                    · refine lv_iload hx hb dX1_isSame_244 (lv_at hl 5 rfl) ?_
                                      refine lv_istore (lv' := [(5, .int (nI i)), (4, .int (nI i)), (11, .int (nI 6)), (8, .int (sma 0 (fun r => N (7 + r) i) 6)), (9, .ref (b 3)), (10, .int (nI 6)), (7, .int (nI i)), (6, .int (sma 0 (sPr N) i)), (0, .ref (b 0)), (1, .ref (a 13)), (2, .int (nI T)), (3, .int (nI R))]) hx hb dX1_isSame_246 hl (by decide) rfl (fun ls hl => ?_)
                                      refine lv_iload hx hb dX1_isSame_248 (lv_at hl 7 rfl) ?_
                                      refine lv_aload_n hx hb dX1_isSame_250 rfl (lv_at hl 8 rfl) ?_
                                      refine lv_iload hx hb dX1_isSame_251 (lv_at hl 6 rfl) ?_
                                      refine k1_X1_price hC (c_X1_price l D cI cQ b N hT8 hR6 (t := i) (by omega)) hN rfl ⟨rfl, rfl⟩ ⟨Nat.le_of_ble_eq_true rfl, Nat.le_of_ble_eq_true rfl⟩ ⟨Nat.zero_le _, Nat.zero_le _⟩ hl.1 rfl (Nat.le_of_ble_eq_true rfl) dX1_isSame_253 ?_
                                      refine lv_iadd hx hb dX1_isSame_256 ?_
                                      refine lv_istore (lv' := [(6, .int ((sma 0 (sPr N) i) + (sPr N i))), (5, .int (nI i)), (4, .int (nI i)), (11, .int (nI 6)), (8, .int (sma 0 (fun r => N (7 + r) i) 6)), (9, .ref (b 3)), (10, .int (nI 6)), (7, .int (nI i)), (0, .ref (b 0)), (1, .ref (a 13)), (2, .int (nI T)), (3, .int (nI R))]) hx hb dX1_isSame_257 hl (by decide) rfl (fun ls hl => ?_)
                                      refine lv_iinc (v := nI (i + 1)) (lv' := [(7, .int (nI (i + 1))), (6, .int ((sma 0 (sPr N) i) + (sPr N i))), (5, .int (nI i)), (4, .int (nI i)), (11, .int (nI 6)), (8, .int (sma 0 (fun r => N (7 + r) i) 6)), (9, .ref (b 3)), (10, .int (nI 6)), (0, .ref (b 0)), (1, .ref (a 13)), (2, .int (nI T)), (3, .int (nI R))]) hx hb dX1_isSame_259 hl (k := 7) rfl (ninc i) (by decide) rfl (fun ls hl => ?_)
                                      refine lv_goto (tgt := 53) hx hb dX1_isSame_262 (by decide) ?_
                                      have e74 : oI (amx (sPr N) (i + 1)) = nI i := by rw [amx_none hq8] <;> rfl
                                      have e75 : oI (amn (sUn N) (i + 1)) = nI i := by rw [amn_new hq9 c71] <;> rfl
                                      exact ih ls (by rw [e74, e75]; exact lv_sub hl [0, 3, 2, 1, 8, 9, 10, 11] rfl)
                              · exfalso; revert c66; decide
                            · rw [hq8] at hl
                              have hl : lv_has ls 13 [(11, .int (nI 6)), (8, .int (sma 0 (fun r => N (7 + r) i) 6)), (9, .ref (b 3)), (10, .int (nI 6)), (7, .int (nI i)), (4, .int (nI b8)), (5, .int (oI (amn (sUn N) i))), (6, .int (sma 0 (sPr N) i)), (0, .ref (b 0)), (1, .ref (a 13)), (2, .int (nI T)), (3, .int (nI R))] := hl
                              have hb8 := amx_lt i hq8
                              refine lv_iload hx hb dX1_isSame_200 (lv_at hl 5 rfl) ?_
                              refine lv_if_lt (tgt := 220) hx hb dX1_isSame_202 (by decide) (fun c76 => ?_) (fun c76 => ?_)
                              · exfalso; exact absurd c76 (nI_pos (by omega))
                              · refine lv_aload_n hx hb dX1_isSame_205 rfl (lv_at hl 8 rfl) ?_
                                refine lv_iload hx hb dX1_isSame_206 (lv_at hl 4 rfl) ?_
                                refine k1_X1_price hC (c_X1_price l D cI cQ b N hT8 hR6 (t := i) (by omega)) hN rfl ⟨rfl, rfl⟩ ⟨Nat.le_of_ble_eq_true rfl, Nat.le_of_ble_eq_true rfl⟩ ⟨Nat.zero_le _, Nat.zero_le _⟩ hl.1 rfl (Nat.le_of_ble_eq_true rfl) dX1_isSame_208 ?_
                                refine lv_aload_n hx hb dX1_isSame_211 rfl (lv_at hl 8 rfl) ?_
                                refine lv_iload hx hb dX1_isSame_212 (lv_at hl 5 rfl) ?_
                                refine k1_X1_price hC (c_X1_price l D cI cQ b N hT8 hR6 (t := b8) (by omega)) hN rfl ⟨rfl, rfl⟩ ⟨Nat.le_of_ble_eq_true rfl, Nat.le_of_ble_eq_true rfl⟩ ⟨Nat.zero_le _, Nat.zero_le _⟩ hl.1 rfl (Nat.le_of_ble_eq_true rfl) dX1_isSame_214 ?_
                                refine lv_icmp_le (tgt := 224) hx hb dX1_isSame_217 (by decide) (fun c77 => ?_) (fun c77 => ?_)
                                · rcases hq9 : amn (sUn N) i with _ | b9
                                  · rw [hq9] at hl
                                    have hl : lv_has ls 13 [(11, .int (nI 6)), (8, .int (sma 0 (fun r => N (7 + r) i) 6)), (9, .ref (b 3)), (10, .int (nI 6)), (7, .int (nI i)), (4, .int (nI b8)), (5, .int (-1)), (6, .int (sma 0 (sPr N) i)), (0, .ref (b 0)), (1, .ref (a 13)), (2, .int (nI T)), (3, .int (nI R))] := hl
                                    refine lv_iload hx hb dX1_isSame_224 (lv_at hl 6 rfl) ?_
                                    refine lv_if_lt (tgt := 244) hx hb dX1_isSame_226 (by decide) (fun c78 => ?_) (fun c78 => ?_)
                                    · refine lv_iload hx hb dX1_isSame_244 (lv_at hl 4 rfl) ?_
                                      refine lv_istore (lv' := [(5, .int (nI i)), (11, .int (nI 6)), (8, .int (sma 0 (fun r => N (7 + r) i) 6)), (9, .ref (b 3)), (10, .int (nI 6)), (7, .int (nI i)), (4, .int (nI b8)), (6, .int (sma 0 (sPr N) i)), (0, .ref (b 0)), (1, .ref (a 13)), (2, .int (nI T)), (3, .int (nI R))]) hx hb dX1_isSame_246 hl (by decide) rfl (fun ls hl => ?_)
                                      refine lv_iload hx hb dX1_isSame_248 (lv_at hl 7 rfl) ?_
                                      refine lv_aload_n hx hb dX1_isSame_250 rfl (lv_at hl 8 rfl) ?_
                                      refine lv_iload hx hb dX1_isSame_251 (lv_at hl 5 rfl) ?_
                                      refine k1_X1_price hC (c_X1_price l D cI cQ b N hT8 hR6 (t := i) (by omega)) hN rfl ⟨rfl, rfl⟩ ⟨Nat.le_of_ble_eq_true rfl, Nat.le_of_ble_eq_true rfl⟩ ⟨Nat.zero_le _, Nat.zero_le _⟩ hl.1 rfl (Nat.le_of_ble_eq_true rfl) dX1_isSame_253 ?_
                                      refine lv_iadd hx hb dX1_isSame_256 ?_
                                      refine lv_istore (lv' := [(6, .int ((sma 0 (sPr N) i) + (sPr N i))), (5, .int (nI i)), (11, .int (nI 6)), (8, .int (sma 0 (fun r => N (7 + r) i) 6)), (9, .ref (b 3)), (10, .int (nI 6)), (7, .int (nI i)), (4, .int (nI b8)), (0, .ref (b 0)), (1, .ref (a 13)), (2, .int (nI T)), (3, .int (nI R))]) hx hb dX1_isSame_257 hl (by decide) rfl (fun ls hl => ?_)
                                      refine lv_iinc (v := nI (i + 1)) (lv' := [(7, .int (nI (i + 1))), (6, .int ((sma 0 (sPr N) i) + (sPr N i))), (5, .int (nI i)), (11, .int (nI 6)), (8, .int (sma 0 (fun r => N (7 + r) i) 6)), (9, .ref (b 3)), (10, .int (nI 6)), (4, .int (nI b8)), (0, .ref (b 0)), (1, .ref (a 13)), (2, .int (nI T)), (3, .int (nI R))]) hx hb dX1_isSame_259 hl (k := 6) rfl (ninc i) (by decide) rfl (fun ls hl => ?_)
                                      refine lv_goto (tgt := 53) hx hb dX1_isSame_262 (by decide) ?_
                                      have e79 : oI (amx (sPr N) (i + 1)) = nI b8 := by rw [amx_keep hq8 c77] <;> rfl
                                      have e80 : oI (amn (sUn N) (i + 1)) = nI i := by rw [amn_none hq9] <;> rfl
                                      exact ih ls (by rw [e79, e80]; exact lv_sub hl [0, 7, 2, 1, 8, 9, 10, 11] rfl)
                                    · exfalso; revert c78; decide
                                  · rw [hq9] at hl
                                    have hl : lv_has ls 13 [(11, .int (nI 6)), (8, .int (sma 0 (fun r => N (7 + r) i) 6)), (9, .ref (b 3)), (10, .int (nI 6)), (7, .int (nI i)), (4, .int (nI b8)), (5, .int (nI b9)), (6, .int (sma 0 (sPr N) i)), (0, .ref (b 0)), (1, .ref (a 13)), (2, .int (nI T)), (3, .int (nI R))] := hl
                                    have hb9 := amn_lt i hq9
                                    refine lv_iload hx hb dX1_isSame_224 (lv_at hl 6 rfl) ?_
                                    refine lv_if_lt (tgt := 244) hx hb dX1_isSame_226 (by decide) (fun c81 => ?_) (fun c81 => ?_)
                                    · exfalso; exact absurd c81 (nI_pos (by omega))
                                    · refine lv_aload_n hx hb dX1_isSame_229 rfl (lv_at hl 8 rfl) ?_
                                      refine lv_iload hx hb dX1_isSame_230 (lv_at hl 4 rfl) ?_
                                      refine k1_X1_until hC (c_X1_until l D cI cQ b N hT8 hR6 (t := i) (by omega) hP) hN rfl ⟨rfl, rfl⟩ ⟨Nat.le_of_ble_eq_true rfl, Nat.le_of_ble_eq_true rfl⟩ ⟨Nat.zero_le _, Nat.zero_le _⟩ hl.1 rfl (Nat.le_of_ble_eq_true rfl) dX1_isSame_232 ?_
                                      refine lv_aload_n hx hb dX1_isSame_235 rfl (lv_at hl 8 rfl) ?_
                                      refine lv_iload hx hb dX1_isSame_236 (lv_at hl 6 rfl) ?_
                                      refine k1_X1_until hC (c_X1_until l D cI cQ b N hT8 hR6 (t := b9) (by omega) hP) hN rfl ⟨rfl, rfl⟩ ⟨Nat.le_of_ble_eq_true rfl, Nat.le_of_ble_eq_true rfl⟩ ⟨Nat.zero_le _, Nat.zero_le _⟩ hl.1 rfl (Nat.le_of_ble_eq_true rfl) dX1_isSame_238 ?_
                                      refine lv_icmp_ge (tgt := 248) hx hb dX1_isSame_241 (by decide) (fun c82 => ?_) (fun c82 => ?_)
                                      · refine lv_iload hx hb dX1_isSame_248 (lv_at hl 7 rfl) ?_
                                        refine lv_aload_n hx hb dX1_isSame_250 rfl (lv_at hl 8 rfl) ?_
                                        refine lv_iload hx hb dX1_isSame_251 (lv_at hl 4 rfl) ?_
                                        refine k1_X1_price hC (c_X1_price l D cI cQ b N hT8 hR6 (t := i) (by omega)) hN rfl ⟨rfl, rfl⟩ ⟨Nat.le_of_ble_eq_true rfl, Nat.le_of_ble_eq_true rfl⟩ ⟨Nat.zero_le _, Nat.zero_le _⟩ hl.1 rfl (Nat.le_of_ble_eq_true rfl) dX1_isSame_253 ?_
                                        refine lv_iadd hx hb dX1_isSame_256 ?_
                                        refine lv_istore (lv' := [(6, .int ((sma 0 (sPr N) i) + (sPr N i))), (11, .int (nI 6)), (8, .int (sma 0 (fun r => N (7 + r) i) 6)), (9, .ref (b 3)), (10, .int (nI 6)), (7, .int (nI i)), (4, .int (nI b8)), (5, .int (nI b9)), (0, .ref (b 0)), (1, .ref (a 13)), (2, .int (nI T)), (3, .int (nI R))]) hx hb dX1_isSame_257 hl (by decide) rfl (fun ls hl => ?_)
                                        refine lv_iinc (v := nI (i + 1)) (lv' := [(7, .int (nI (i + 1))), (6, .int ((sma 0 (sPr N) i) + (sPr N i))), (11, .int (nI 6)), (8, .int (sma 0 (fun r => N (7 + r) i) 6)), (9, .ref (b 3)), (10, .int (nI 6)), (4, .int (nI b8)), (5, .int (nI b9)), (0, .ref (b 0)), (1, .ref (a 13)), (2, .int (nI T)), (3, .int (nI R))]) hx hb dX1_isSame_259 hl (k := 5) rfl (ninc i) (by decide) rfl (fun ls hl => ?_)
                                        refine lv_goto (tgt := 53) hx hb dX1_isSame_262 (by decide) ?_
                                        have e83 : oI (amx (sPr N) (i + 1)) = nI b8 := by rw [amx_keep hq8 c77] <;> rfl
                                        have e84 : oI (amn (sUn N) (i + 1)) = nI b9 := by rw [amn_keep hq9 c82] <;> rfl
                                        exact ih ls (by rw [e83, e84]; exact lv_sub hl [0, 6, 7, 1, 8, 9, 10, 11] rfl)
                                      · refine lv_iload hx hb dX1_isSame_244 (lv_at hl 4 rfl) ?_
                                        refine lv_istore (lv' := [(5, .int (nI i)), (11, .int (nI 6)), (8, .int (sma 0 (fun r => N (7 + r) i) 6)), (9, .ref (b 3)), (10, .int (nI 6)), (7, .int (nI i)), (4, .int (nI b8)), (6, .int (sma 0 (sPr N) i)), (0, .ref (b 0)), (1, .ref (a 13)), (2, .int (nI T)), (3, .int (nI R))]) hx hb dX1_isSame_246 hl (by decide) rfl (fun ls hl => ?_)
                                        refine lv_iload hx hb dX1_isSame_248 (lv_at hl 7 rfl) ?_
                                        refine lv_aload_n hx hb dX1_isSame_250 rfl (lv_at hl 8 rfl) ?_
                                        refine lv_iload hx hb dX1_isSame_251 (lv_at hl 5 rfl) ?_
                                        refine k1_X1_price hC (c_X1_price l D cI cQ b N hT8 hR6 (t := i) (by omega)) hN rfl ⟨rfl, rfl⟩ ⟨Nat.le_of_ble_eq_true rfl, Nat.le_of_ble_eq_true rfl⟩ ⟨Nat.zero_le _, Nat.zero_le _⟩ hl.1 rfl (Nat.le_of_ble_eq_true rfl) dX1_isSame_253 ?_
                                        refine lv_iadd hx hb dX1_isSame_256 ?_
                                        refine lv_istore (lv' := [(6, .int ((sma 0 (sPr N) i) + (sPr N i))), (5, .int (nI i)), (11, .int (nI 6)), (8, .int (sma 0 (fun r => N (7 + r) i) 6)), (9, .ref (b 3)), (10, .int (nI 6)), (7, .int (nI i)), (4, .int (nI b8)), (0, .ref (b 0)), (1, .ref (a 13)), (2, .int (nI T)), (3, .int (nI R))]) hx hb dX1_isSame_257 hl (by decide) rfl (fun ls hl => ?_)
                                        refine lv_iinc (v := nI (i + 1)) (lv' := [(7, .int (nI (i + 1))), (6, .int ((sma 0 (sPr N) i) + (sPr N i))), (5, .int (nI i)), (11, .int (nI 6)), (8, .int (sma 0 (fun r => N (7 + r) i) 6)), (9, .ref (b 3)), (10, .int (nI 6)), (4, .int (nI b8)), (0, .ref (b 0)), (1, .ref (a 13)), (2, .int (nI T)), (3, .int (nI R))]) hx hb dX1_isSame_259 hl (k := 6) rfl (ninc i) (by decide) rfl (fun ls hl => ?_)
                                        refine lv_goto (tgt := 53) hx hb dX1_isSame_262 (by decide) ?_
                                        have e85 : oI (amx (sPr N) (i + 1)) = nI b8 := by rw [amx_keep hq8 c77] <;> rfl
                                        have e86 : oI (amn (sUn N) (i + 1)) = nI i := by rw [amn_new hq9 c82] <;> rfl
                                        exact ih ls (by rw [e85, e86]; exact lv_sub hl [0, 7, 2, 1, 8, 9, 10, 11] rfl)
                                · refine lv_iload hx hb dX1_isSame_220 (lv_at hl 4 rfl) ?_
                                  refine lv_istore (lv' := [(4, .int (nI i)), (11, .int (nI 6)), (8, .int (sma 0 (fun r => N (7 + r) i) 6)), (9, .ref (b 3)), (10, .int (nI 6)), (7, .int (nI i)), (5, .int (oI (amn (sUn N) i))), (6, .int (sma 0 (sPr N) i)), (0, .ref (b 0)), (1, .ref (a 13)), (2, .int (nI T)), (3, .int (nI R))]) hx hb dX1_isSame_222 hl (by decide) rfl (fun ls hl => ?_)
                                  rcases hq9 : amn (sUn N) i with _ | b9
                                  · rw [hq9] at hl
                                    have hl : lv_has ls 13 [(4, .int (nI i)), (11, .int (nI 6)), (8, .int (sma 0 (fun r => N (7 + r) i) 6)), (9, .ref (b 3)), (10, .int (nI 6)), (7, .int (nI i)), (5, .int (-1)), (6, .int (sma 0 (sPr N) i)), (0, .ref (b 0)), (1, .ref (a 13)), (2, .int (nI T)), (3, .int (nI R))] := hl
                                    refine lv_iload hx hb dX1_isSame_224 (lv_at hl 6 rfl) ?_
                                    refine lv_if_lt (tgt := 244) hx hb dX1_isSame_226 (by decide) (fun c87 => ?_) (fun c87 => ?_)
                                    · refine lv_iload hx hb dX1_isSame_244 (lv_at hl 5 rfl) ?_
                                      refine lv_istore (lv' := [(5, .int (nI i)), (4, .int (nI i)), (11, .int (nI 6)), (8, .int (sma 0 (fun r => N (7 + r) i) 6)), (9, .ref (b 3)), (10, .int (nI 6)), (7, .int (nI i)), (6, .int (sma 0 (sPr N) i)), (0, .ref (b 0)), (1, .ref (a 13)), (2, .int (nI T)), (3, .int (nI R))]) hx hb dX1_isSame_246 hl (by decide) rfl (fun ls hl => ?_)
                                      refine lv_iload hx hb dX1_isSame_248 (lv_at hl 7 rfl) ?_
                                      refine lv_aload_n hx hb dX1_isSame_250 rfl (lv_at hl 8 rfl) ?_
                                      refine lv_iload hx hb dX1_isSame_251 (lv_at hl 6 rfl) ?_
                                      refine k1_X1_price hC (c_X1_price l D cI cQ b N hT8 hR6 (t := i) (by omega)) hN rfl ⟨rfl, rfl⟩ ⟨Nat.le_of_ble_eq_true rfl, Nat.le_of_ble_eq_true rfl⟩ ⟨Nat.zero_le _, Nat.zero_le _⟩ hl.1 rfl (Nat.le_of_ble_eq_true rfl) dX1_isSame_253 ?_
                                      refine lv_iadd hx hb dX1_isSame_256 ?_
                                      refine lv_istore (lv' := [(6, .int ((sma 0 (sPr N) i) + (sPr N i))), (5, .int (nI i)), (4, .int (nI i)), (11, .int (nI 6)), (8, .int (sma 0 (fun r => N (7 + r) i) 6)), (9, .ref (b 3)), (10, .int (nI 6)), (7, .int (nI i)), (0, .ref (b 0)), (1, .ref (a 13)), (2, .int (nI T)), (3, .int (nI R))]) hx hb dX1_isSame_257 hl (by decide) rfl (fun ls hl => ?_)
                                      refine lv_iinc (v := nI (i + 1)) (lv' := [(7, .int (nI (i + 1))), (6, .int ((sma 0 (sPr N) i) + (sPr N i))), (5, .int (nI i)), (4, .int (nI i)), (11, .int (nI 6)), (8, .int (sma 0 (fun r => N (7 + r) i) 6)), (9, .ref (b 3)), (10, .int (nI 6)), (0, .ref (b 0)), (1, .ref (a 13)), (2, .int (nI T)), (3, .int (nI R))]) hx hb dX1_isSame_259 hl (k := 7) rfl (ninc i) (by decide) rfl (fun ls hl => ?_)
                                      refine lv_goto (tgt := 53) hx hb dX1_isSame_262 (by decide) ?_
                                      have e88 : oI (amx (sPr N) (i + 1)) = nI i := by rw [amx_new hq8 c77] <;> rfl
                                      have e89 : oI (amn (sUn N) (i + 1)) = nI i := by rw [amn_none hq9] <;> rfl
                                      exact ih ls (by rw [e88, e89]; exact lv_sub hl [0, 3, 2, 1, 8, 9, 10, 11] rfl)
                                    · exfalso; revert c87; decide
                                  · rw [hq9] at hl
                                    have hl : lv_has ls 13 [(4, .int (nI i)), (11, .int (nI 6)), (8, .int (sma 0 (fun r => N (7 + r) i) 6)), (9, .ref (b 3)), (10, .int (nI 6)), (7, .int (nI i)), (5, .int (nI b9)), (6, .int (sma 0 (sPr N) i)), (0, .ref (b 0)), (1, .ref (a 13)), (2, .int (nI T)), (3, .int (nI R))] := hl
                                    have hb9 := amn_lt i hq9
                                    refine lv_iload hx hb dX1_isSame_224 (lv_at hl 6 rfl) ?_
                                    refine lv_if_lt (tgt := 244) hx hb dX1_isSame_226 (by decide) (fun c90 => ?_) (fun c90 => ?_)
                                    · exfalso; exact absurd c90 (nI_pos (by omega))
                                    · refine lv_aload_n hx hb dX1_isSame_229 rfl (lv_at hl 8 rfl) ?_
                                      refine lv_iload hx hb dX1_isSame_230 (lv_at hl 5 rfl) ?_
                                      refine k1_X1_until hC (c_X1_until l D cI cQ b N hT8 hR6 (t := i) (by omega) hP) hN rfl ⟨rfl, rfl⟩ ⟨Nat.le_of_ble_eq_true rfl, Nat.le_of_ble_eq_true rfl⟩ ⟨Nat.zero_le _, Nat.zero_le _⟩ hl.1 rfl (Nat.le_of_ble_eq_true rfl) dX1_isSame_232 ?_
                                      refine lv_aload_n hx hb dX1_isSame_235 rfl (lv_at hl 8 rfl) ?_
                                      refine lv_iload hx hb dX1_isSame_236 (lv_at hl 6 rfl) ?_
                                      refine k1_X1_until hC (c_X1_until l D cI cQ b N hT8 hR6 (t := b9) (by omega) hP) hN rfl ⟨rfl, rfl⟩ ⟨Nat.le_of_ble_eq_true rfl, Nat.le_of_ble_eq_true rfl⟩ ⟨Nat.zero_le _, Nat.zero_le _⟩ hl.1 rfl (Nat.le_of_ble_eq_true rfl) dX1_isSame_238 ?_
                                      refine lv_icmp_ge (tgt := 248) hx hb dX1_isSame_241 (by decide) (fun c91 => ?_) (fun c91 => ?_)
                                      · refine lv_iload hx hb dX1_isSame_248 (lv_at hl 7 rfl) ?_
                                        refine lv_aload_n hx hb dX1_isSame_250 rfl (lv_at hl 8 rfl) ?_
                                        refine lv_iload hx hb dX1_isSame_251 (lv_at hl 5 rfl) ?_
                                        refine k1_X1_price hC (c_X1_price l D cI cQ b N hT8 hR6 (t := i) (by omega)) hN rfl ⟨rfl, rfl⟩ ⟨Nat.le_of_ble_eq_true rfl, Nat.le_of_ble_eq_true rfl⟩ ⟨Nat.zero_le _, Nat.zero_le _⟩ hl.1 rfl (Nat.le_of_ble_eq_true rfl) dX1_isSame_253 ?_
                                        refine lv_iadd hx hb dX1_isSame_256 ?_
                                        refine lv_istore (lv' := [(6, .int ((sma 0 (sPr N) i) + (sPr N i))), (4, .int (nI i)), (11, .int (nI 6)), (8, .int (sma 0 (fun r => N (7 + r) i) 6)), (9, .ref (b 3)), (10, .int (nI 6)), (7, .int (nI i)), (5, .int (nI b9)), (0, .ref (b 0)), (1, .ref (a 13)), (2, .int (nI T)), (3, .int (nI R))]) hx hb dX1_isSame_257 hl (by decide) rfl (fun ls hl => ?_)
                                        refine lv_iinc (v := nI (i + 1)) (lv' := [(7, .int (nI (i + 1))), (6, .int ((sma 0 (sPr N) i) + (sPr N i))), (4, .int (nI i)), (11, .int (nI 6)), (8, .int (sma 0 (fun r => N (7 + r) i) 6)), (9, .ref (b 3)), (10, .int (nI 6)), (5, .int (nI b9)), (0, .ref (b 0)), (1, .ref (a 13)), (2, .int (nI T)), (3, .int (nI R))]) hx hb dX1_isSame_259 hl (k := 6) rfl (ninc i) (by decide) rfl (fun ls hl => ?_)
                                        refine lv_goto (tgt := 53) hx hb dX1_isSame_262 (by decide) ?_
                                        have e92 : oI (amx (sPr N) (i + 1)) = nI i := by rw [amx_new hq8 c77] <;> rfl
                                        have e93 : oI (amn (sUn N) (i + 1)) = nI b9 := by rw [amn_keep hq9 c91] <;> rfl
                                        exact ih ls (by rw [e92, e93]; exact lv_sub hl [0, 2, 7, 1, 8, 9, 10, 11] rfl)
                                      · refine lv_iload hx hb dX1_isSame_244 (lv_at hl 5 rfl) ?_
                                        refine lv_istore (lv' := [(5, .int (nI i)), (4, .int (nI i)), (11, .int (nI 6)), (8, .int (sma 0 (fun r => N (7 + r) i) 6)), (9, .ref (b 3)), (10, .int (nI 6)), (7, .int (nI i)), (6, .int (sma 0 (sPr N) i)), (0, .ref (b 0)), (1, .ref (a 13)), (2, .int (nI T)), (3, .int (nI R))]) hx hb dX1_isSame_246 hl (by decide) rfl (fun ls hl => ?_)
                                        refine lv_iload hx hb dX1_isSame_248 (lv_at hl 7 rfl) ?_
                                        refine lv_aload_n hx hb dX1_isSame_250 rfl (lv_at hl 8 rfl) ?_
                                        refine lv_iload hx hb dX1_isSame_251 (lv_at hl 6 rfl) ?_
                                        refine k1_X1_price hC (c_X1_price l D cI cQ b N hT8 hR6 (t := i) (by omega)) hN rfl ⟨rfl, rfl⟩ ⟨Nat.le_of_ble_eq_true rfl, Nat.le_of_ble_eq_true rfl⟩ ⟨Nat.zero_le _, Nat.zero_le _⟩ hl.1 rfl (Nat.le_of_ble_eq_true rfl) dX1_isSame_253 ?_
                                        refine lv_iadd hx hb dX1_isSame_256 ?_
                                        refine lv_istore (lv' := [(6, .int ((sma 0 (sPr N) i) + (sPr N i))), (5, .int (nI i)), (4, .int (nI i)), (11, .int (nI 6)), (8, .int (sma 0 (fun r => N (7 + r) i) 6)), (9, .ref (b 3)), (10, .int (nI 6)), (7, .int (nI i)), (0, .ref (b 0)), (1, .ref (a 13)), (2, .int (nI T)), (3, .int (nI R))]) hx hb dX1_isSame_257 hl (by decide) rfl (fun ls hl => ?_)
                                        refine lv_iinc (v := nI (i + 1)) (lv' := [(7, .int (nI (i + 1))), (6, .int ((sma 0 (sPr N) i) + (sPr N i))), (5, .int (nI i)), (4, .int (nI i)), (11, .int (nI 6)), (8, .int (sma 0 (fun r => N (7 + r) i) 6)), (9, .ref (b 3)), (10, .int (nI 6)), (0, .ref (b 0)), (1, .ref (a 13)), (2, .int (nI T)), (3, .int (nI R))]) hx hb dX1_isSame_259 hl (k := 7) rfl (ninc i) (by decide) rfl (fun ls hl => ?_)
                                        refine lv_goto (tgt := 53) hx hb dX1_isSame_262 (by decide) ?_
                                        have e94 : oI (amx (sPr N) (i + 1)) = nI i := by rw [amx_new hq8 c77] <;> rfl
                                        have e95 : oI (amn (sUn N) (i + 1)) = nI i := by rw [amn_new hq9 c91] <;> rfl
                                        exact ih ls (by rw [e94, e95]; exact lv_sub hl [0, 3, 2, 1, 8, 9, 10, 11] rfl)
                          · exfalso; exact c65 (hJ.op (by omega))
              · exfalso; omega
            · intro j hj jh ls hl
              refine lv_iload hx hb dX1_isSame_76 (lv_at hl 0 rfl) ?_
              refine lv_iload hx hb dX1_isSame_78 (lv_at hl 3 rfl) ?_
              refine jge (i := j) (j := 6) (tgt := 106) hC dX1_isSame_80 (by decide) rfl rfl (by omega) (by omega) (fun c96 => ?_) (fun c96 => ?_)
              · exfalso; omega
              · refine lv_aload hx hb dX1_isSame_83 (lv_at hl 2 rfl) ?_
                refine lv_iload hx hb dX1_isSame_85 (lv_at hl 0 rfl) ?_
                refine lS_hr (j) hC hN rfl (by omega) dX1_isSame_87 ?_
                refine lv_astore (lv' := [(12, .ref (b (4 + j))), (11, .int (nI j)), (8, .int (sma 0 (fun r => N (7 + r) i) j)), (9, .ref (b 3)), (10, .int (nI 6)), (7, .int (nI i)), (4, .int (oI (amx (sPr N) i))), (5, .int (oI (amn (sUn N) i))), (6, .int (sma 0 (sPr N) i)), (0, .ref (b 0)), (1, .ref (a 13)), (2, .int (nI T)), (3, .int (nI R))]) hx hb dX1_isSame_88 hl (by decide) rfl (fun ls hl => ?_)
                refine lv_iload hx hb dX1_isSame_90 (lv_at hl 2 rfl) ?_
                refine lv_aload hx hb dX1_isSame_92 (lv_at hl 0 rfl) ?_
                refine lv_iload hx hb dX1_isSame_94 (lv_at hl 5 rfl) ?_
                refine lS_held (j) (i) hC hN (by omega) rfl (by omega) rfl dX1_isSame_96 ?_
                refine lv_iadd hx hb dX1_isSame_97 ?_
                refine lv_istore (lv' := [(8, .int ((sma 0 (fun r => N (7 + r) i) j) + (N (7 + j) i))), (12, .ref (b (4 + j))), (11, .int (nI j)), (9, .ref (b 3)), (10, .int (nI 6)), (7, .int (nI i)), (4, .int (oI (amx (sPr N) i))), (5, .int (oI (amn (sUn N) i))), (6, .int (sma 0 (sPr N) i)), (0, .ref (b 0)), (1, .ref (a 13)), (2, .int (nI T)), (3, .int (nI R))]) hx hb dX1_isSame_98 hl (by decide) rfl (fun ls hl => ?_)
                refine lv_iinc (v := nI (j + 1)) (lv' := [(11, .int (nI (j + 1))), (8, .int ((sma 0 (fun r => N (7 + r) i) j) + (N (7 + j) i))), (12, .ref (b (4 + j))), (9, .ref (b 3)), (10, .int (nI 6)), (7, .int (nI i)), (4, .int (oI (amx (sPr N) i))), (5, .int (oI (amn (sUn N) i))), (6, .int (sma 0 (sPr N) i)), (0, .ref (b 0)), (1, .ref (a 13)), (2, .int (nI T)), (3, .int (nI R))]) hx hb dX1_isSame_100 hl (k := 2) rfl (ninc j) (by decide) rfl (fun ls hl => ?_)
                refine lv_goto (tgt := 76) hx hb dX1_isSame_103 (by decide) ?_
                exact jh ls (lv_sub hl [0, 1, 3, 4, 5, 6, 7, 8, 9, 10, 11, 12] rfl)
      · exfalso; exact c3 rfl

def bMe (S : bS) (T R : Nat) : UInt64 := if T < 1 then FP.dconst0 else FP.ddiv (FP.i2d (sma 0 (bPr S R) T)) (FP.i2d (nI T))
set_option maxHeartbeats 4000000 in
set_option maxRecDepth 100000 in
theorem c_X0_meanPrice (l : Launch) (D : va_G) (cI cQ : ClassId) (a : Nat → Nat) (S : bS) {T R : Nat} (hI : BI S T R) (hn : 1 ≤ T → vf_n64 (FP.ddiv (FP.i2d (sma 0 (bPr S R) T)) (FP.i2d (nI T)))) : Rd l yX0_meanPrice cX0_meanPrice 3 (some .double) ({ frames := 4, cells := 0, slots := 0, locals := 88 } : Room) (BW D cI cQ a S) [.ref (a 13)] (.double (bMe S T R)) := by
  refine Rd.of (by decide) (Nat.le_of_ble_eq_true rfl) ?_
  intro p e s m args below meth c ls hC hr hlocks hB hl
  have hx := hC.1
  have hb := hC.2.1
  obtain ⟨hT, hR, hT8, hR6⟩ := id hI
  have hl : lv_has ls 3 [(0, .ref (a 13))] := hl
  refine lv_aload_n hx hb dX0_meanPrice_0 rfl (lv_at hl 0 rfl) ?_
  refine gB_towerCount hC hB hT dX0_meanPrice_1 ?_
  refine lv_iconst (v := 1) hx hb dX0_meanPrice_4 (by decide) ?_
  refine jge (i := T) (j := 1) (tgt := 10) hC dX0_meanPrice_5 (by decide) rfl rfl (by omega) (by omega) (fun c1 => ?_) (fun c1 => ?_)
  · refine lv_iconst (v := 0) hx hb dX0_meanPrice_10 (by decide) ?_
    refine lv_istore_n (lv' := [(1, .int (0)), (0, .ref (a 13))]) hx hb dX0_meanPrice_11 rfl hl (by decide) rfl (fun ls hl => ?_)
    refine lv_iconst (v := 0) hx hb dX0_meanPrice_12 (by decide) ?_
    refine lv_istore_n (lv' := [(2, .int (0)), (1, .int (0)), (0, .ref (a 13))]) hx hb dX0_meanPrice_13 rfl hl (by decide) rfl (fun ls hl => ?_)
    refine loopU (P := fun i => ∀ ls : Array Slot, lv_has ls 3 [(2, .int (nI i)), (1, .int (sma 0 (bPr S R) i)), (0, .ref (a 13))] → W p l e ({ frames := 4, cells := 0, slots := 0, locals := 88 } : Room) s m args below meth c s.heap [] 0 0 (MQ below (k2_QcV (.double (bMe S T R))) args s 0 0 (fun _ => False)) (F0 m 14 ls [])) (T) ?_ ?_ 0 (by omega) ls (by first | exact lv_sub hl [0, 1, 2] rfl | (simpa using lv_sub hl [0, 1, 2] rfl))
    · intro ls hl
      refine lv_iload_n hx hb dX0_meanPrice_14 rfl (lv_at hl 0 rfl) ?_
      refine lv_aload_n hx hb dX0_meanPrice_15 rfl (lv_at hl 2 rfl) ?_
      refine gB_towerCount hC hB hT dX0_meanPrice_16 ?_
      refine jge (i := T) (j := T) (tgt := 36) hC dX0_meanPrice_19 (by decide) rfl rfl (by omega) (by omega) (fun c2 => ?_) (fun c2 => ?_)
      · refine lv_iload_n hx hb dX0_meanPrice_36 rfl (lv_at hl 1 rfl) ?_
        refine lv_i2d hx hb dX0_meanPrice_37 ?_
        refine lv_aload_n hx hb dX0_meanPrice_38 rfl (lv_at hl 2 rfl) ?_
        refine gB_towerCount hC hB hT dX0_meanPrice_39 ?_
        refine lv_i2d hx hb dX0_meanPrice_42 ?_
        refine lv_ddiv hx hb dX0_meanPrice_43 (hn c1) ?_
        exact rd_d hC hr hlocks dX0_meanPrice_44 (by unfold bMe; rw [if_neg (by omega)])
      · exfalso; omega
    · intro i hi ih ls hl
      refine lv_iload_n hx hb dX0_meanPrice_14 rfl (lv_at hl 0 rfl) ?_
      refine lv_aload_n hx hb dX0_meanPrice_15 rfl (lv_at hl 2 rfl) ?_
      refine gB_towerCount hC hB hT dX0_meanPrice_16 ?_
      refine jge (i := i) (j := T) (tgt := 36) hC dX0_meanPrice_19 (by decide) rfl rfl (by omega) (by omega) (fun c3 => ?_) (fun c3 => ?_)
      · exfalso; omega
      · refine lv_iload_n hx hb dX0_meanPrice_22 rfl (lv_at hl 1 rfl) ?_
        refine lv_aload_n hx hb dX0_meanPrice_23 rfl (lv_at hl 2 rfl) ?_
        refine lv_iload_n hx hb dX0_meanPrice_24 rfl (lv_at hl 0 rfl) ?_
        refine k_X0_priceNow hC (c_X0_priceNow l D cI cQ a S hI (t := i) (by omega)) hB rfl ⟨rfl, rfl⟩ ⟨Nat.le_of_ble_eq_true rfl, Nat.le_of_ble_eq_true rfl⟩ ⟨Nat.zero_le _, Nat.zero_le _⟩ hl.1 rfl (Nat.le_of_ble_eq_true rfl) dX0_meanPrice_25 ?_
        refine lv_iadd hx hb dX0_meanPrice_28 ?_
        refine lv_istore_n (lv' := [(1, .int ((sma 0 (bPr S R) i) + (bPr S R i))), (2, .int (nI i)), (0, .ref (a 13))]) hx hb dX0_meanPrice_29 rfl hl (by decide) rfl (fun ls hl => ?_)
        refine lv_iinc (v := nI (i + 1)) (lv' := [(2, .int (nI (i + 1))), (1, .int ((sma 0 (bPr S R) i) + (bPr S R i))), (0, .ref (a 13))]) hx hb dX0_meanPrice_30 hl (k := 1) rfl (ninc i) (by decide) rfl (fun ls hl => ?_)
        refine lv_goto (tgt := 14) hx hb dX0_meanPrice_33 (by decide) ?_
        exact ih ls (lv_sub hl [0, 1, 2] rfl)
  · refine lv_dconst0 hx hb dX0_meanPrice_8 ?_
    exact rd_d hC hr hlocks dX0_meanPrice_9 (by unfold bMe; rw [if_pos c1])

set_option maxHeartbeats 8000000 in
set_option maxRecDepth 100000 in
theorem law_s2 {p : Program} {l : Launch} {e : Env} {s : State} {m : MethodId} {args : Array Value} {below : List Frame} {meth : Method} {c : Code} {Q : State → Prop} {bs tm cells slots : Nat} {D : va_G} {cI cQ : ClassId} {a b x : Nat → Nat} {S N : bS} {T R sec : Nat} {w9 p9 bt9 u9 q9 : Nat → Nat} (hC : CallFix p m c cL_law 25 s args wsL_law RL) (hJ : Jc S N T R sec w9 p9 bt9 u9 q9) (hd : Dsx a b x T R s.heap.size) (hc1 : cells + 0 ≤ room_1.cells) (hc2 : slots + 0 ≤ room_1.slots)  {H : Heap} {locs : List Loc} {ls : Array Slot} (hW : L1 D cI cQ a b x S N T R (fun F => FP S R F T) s H) (hS : va_S (fun q => s.heap.size ≤ q) s.heap H locs) (hl : lv_has ls 25 [(19, .int (nI T)), (13, .int (dmx (bPr S R) T)), (14, .int (smn (S 3) T)), (15, .int (dueS S T)), (16, .int (brg S R T)), (17, .int (0)), (18, .int (0)), (0, .ref (bs)), (1, .ref (a 13)), (2, .ref (b 0)), (3, .int (nI tm)), (5, .int (nI T)), (6, .int (nI R)), (7, .ref (x 0)), (8, .ref (x 1)), (9, .ref (x 2)), (10, .ref (x 3)), (11, .ref (x 4)), (12, .ref (x 5))]) (K : ∀ (H : Heap) (locs : List Loc) (ls : Array Slot), L1 D cI cQ a b x S N T R (fun F => FP S R F T) s H → va_S (fun q => s.heap.size ≤ q) s.heap H locs → lv_has ls 25 [(17, .int (sma 0 (S 5) R)), (18, .int (bOw S R)), (13, .int (dmx (bPr S R) T)), (14, .int (smn (S 3) T)), (15, .int (dueS S T)), (16, .int (brg S R T)), (0, .ref (bs)), (1, .ref (a 13)), (2, .ref (b 0)), (3, .int (nI tm)), (5, .int (nI T)), (6, .int (nI R)), (7, .ref (x 0)), (8, .ref (x 1)), (9, .ref (x 2)), (10, .ref (x 3)), (11, .ref (x 4)), (12, .ref (x 5))] → W p l e room_1 s m args below meth c H locs cells slots Q (F0 m 644 ls [])) : W p l e room_1 s m args below meth c H locs cells slots Q (F0 m 502 ls []) := by
  have hx := hC.1
  have hb := hC.2.1
  have hT8 := hJ.T8
  have hR6 := hJ.R6
  have hP := hJ.hP
  obtain ⟨hds, hax, hbx, haA, hbA, hxA⟩ := hd
  have hAB : ∀ q, inB a q → (fun q => s.heap.size ≤ q) q := fun q ⟨k, hk, e⟩ => by rw [e]; exact haA k hk
  have hAN : ∀ q, inG (10 + T) b q → (fun q => s.heap.size ≤ q) q := fun q ⟨k, hk, e⟩ => by rw [e]; exact hbA k hk
  have hAX : ∀ q, inG (6 + R) x q → (fun q => s.heap.size ≤ q) q := fun q ⟨k, hk, e⟩ => by rw [e]; exact hxA k hk
  obtain ⟨hB, hN, F, hV, hF⟩ := hW
  refine lv_iconst (v := 0) hx hb dL_law_502 (by decide) ?_
  refine lv_istore (lv' := [(19, .int (0)), (13, .int (dmx (bPr S R) T)), (14, .int (smn (S 3) T)), (15, .int (dueS S T)), (16, .int (brg S R T)), (17, .int (0)), (18, .int (0)), (0, .ref (bs)), (1, .ref (a 13)), (2, .ref (b 0)), (3, .int (nI tm)), (5, .int (nI T)), (6, .int (nI R)), (7, .ref (x 0)), (8, .ref (x 1)), (9, .ref (x 2)), (10, .ref (x 3)), (11, .ref (x 4)), (12, .ref (x 5))]) hx hb dL_law_503 hl (by decide) rfl (fun ls hl => ?_)
  refine loopU (P := fun r => ∀ ls : Array Slot, lv_has ls 25 [(19, .int (nI r)), (17, .int (sma 0 (S 5) r)), (18, .int (bOw S r)), (13, .int (dmx (bPr S R) T)), (14, .int (smn (S 3) T)), (15, .int (dueS S T)), (16, .int (brg S R T)), (0, .ref (bs)), (1, .ref (a 13)), (2, .ref (b 0)), (3, .int (nI tm)), (5, .int (nI T)), (6, .int (nI R)), (7, .ref (x 0)), (8, .ref (x 1)), (9, .ref (x 2)), (10, .ref (x 3)), (11, .ref (x 4)), (12, .ref (x 5))] → W p l e room_1 s m args below meth c H locs cells slots (Q) (F0 m 505 ls [])) (R) ?_ ?_ 0 (by omega) ls (by first | exact lv_sub hl [0, 5, 6, 1, 2, 3, 4, 7, 8, 9, 10, 11, 12, 13, 14, 15, 16, 17, 18] rfl | (simpa using lv_sub hl [0, 5, 6, 1, 2, 3, 4, 7, 8, 9, 10, 11, 12, 13, 14, 15, 16, 17, 18] rfl))
  · intro ls hl
    refine lv_iload hx hb dL_law_505 (lv_at hl 0 rfl) ?_
    refine lv_iload hx hb dL_law_507 (lv_at hl 12 rfl) ?_
    refine jge (i := R) (j := R) (tgt := 644) hC dL_law_509 (by decide) rfl rfl (by omega) (by omega) (fun c1 => ?_) (fun c1 => ?_)
    · exact K H locs ls ⟨hB, hN, F, hV, hF⟩ hS (lv_sub hl [1, 2, 3, 4, 5, 6, 7, 8, 9, 10, 11, 12, 13, 14, 15, 16, 17, 18] rfl)
    · exfalso; omega
  · intro r hr rh ls hl
    obtain ⟨k9, hk9, hk9R, hk9m⟩ := amx_ex (f := fun r => bWb S T R r 0) R (by omega)
    refine lv_iload hx hb dL_law_505 (lv_at hl 0 rfl) ?_
    refine lv_iload hx hb dL_law_507 (lv_at hl 12 rfl) ?_
    refine jge (i := r) (j := R) (tgt := 644) hC dL_law_509 (by decide) rfl rfl (by omega) (by omega) (fun c2 => ?_) (fun c2 => ?_)
    · exfalso; omega
    · refine lv_aload_n hx hb dL_law_512 rfl (lv_at hl 8 rfl) ?_
      refine lv_iload hx hb dL_law_513 (lv_at hl 0 rfl) ?_
      refine kL_X0_purseOf hC (c_X0_purseOf l D cI cQ a S hJ.1 (r := r) (by omega)) hB rfl ⟨rfl, rfl⟩ ⟨Nat.le_of_ble_eq_true rfl, Nat.le_of_ble_eq_true rfl⟩ ⟨by omega, by omega⟩ hl.1 rfl (Nat.le_of_ble_eq_true rfl) dL_law_515 ?_
      refine lv_istore (lv' := [(20, .int (S 5 r)), (19, .int (nI r)), (17, .int (sma 0 (S 5) r)), (18, .int (bOw S r)), (13, .int (dmx (bPr S R) T)), (14, .int (smn (S 3) T)), (15, .int (dueS S T)), (16, .int (brg S R T)), (0, .ref (bs)), (1, .ref (a 13)), (2, .ref (b 0)), (3, .int (nI tm)), (5, .int (nI T)), (6, .int (nI R)), (7, .ref (x 0)), (8, .ref (x 1)), (9, .ref (x 2)), (10, .ref (x 3)), (11, .ref (x 4)), (12, .ref (x 5))]) hx hb dL_law_518 hl (by decide) rfl (fun ls hl => ?_)
      refine lv_iconst (v := 0) hx hb dL_law_520 (by decide) ?_
      refine lv_istore (lv' := [(21, .int (0)), (20, .int (S 5 r)), (19, .int (nI r)), (17, .int (sma 0 (S 5) r)), (18, .int (bOw S r)), (13, .int (dmx (bPr S R) T)), (14, .int (smn (S 3) T)), (15, .int (dueS S T)), (16, .int (brg S R T)), (0, .ref (bs)), (1, .ref (a 13)), (2, .ref (b 0)), (3, .int (nI tm)), (5, .int (nI T)), (6, .int (nI R)), (7, .ref (x 0)), (8, .ref (x 1)), (9, .ref (x 2)), (10, .ref (x 3)), (11, .ref (x 4)), (12, .ref (x 5))]) hx hb dL_law_521 hl (by decide) rfl (fun ls hl => ?_)
      refine lv_iload hx hb dL_law_523 (lv_at hl 3 rfl) ?_
      refine lv_iload hx hb dL_law_525 (lv_at hl 1 rfl) ?_
      refine lv_iadd hx hb dL_law_527 ?_
      refine lv_istore (lv' := [(17, .int ((sma 0 (S 5) r) + (S 5 r))), (21, .int (0)), (20, .int (S 5 r)), (19, .int (nI r)), (18, .int (bOw S r)), (13, .int (dmx (bPr S R) T)), (14, .int (smn (S 3) T)), (15, .int (dueS S T)), (16, .int (brg S R T)), (0, .ref (bs)), (1, .ref (a 13)), (2, .ref (b 0)), (3, .int (nI tm)), (5, .int (nI T)), (6, .int (nI R)), (7, .ref (x 0)), (8, .ref (x 1)), (9, .ref (x 2)), (10, .ref (x 3)), (11, .ref (x 4)), (12, .ref (x 5))]) hx hb dL_law_528 hl (by decide) rfl (fun ls hl => ?_)
      refine lv_iload hx hb dL_law_530 (lv_at hl 4 rfl) ?_
      refine lv_iload hx hb dL_law_532 (lv_at hl 2 rfl) ?_
      refine lv_if_ge (tgt := 541) hx hb dL_law_534 (by decide) (fun c3 => ?_) (fun c3 => ?_)
      · refine lv_iconst (v := 0) hx hb dL_law_541 (by decide) ?_
        refine lv_iadd hx hb dL_law_542 ?_
        refine lv_istore (lv' := [(18, .int ((bOw S r) + 0)), (17, .int ((sma 0 (S 5) r) + (S 5 r))), (21, .int (0)), (20, .int (S 5 r)), (19, .int (nI r)), (13, .int (dmx (bPr S R) T)), (14, .int (smn (S 3) T)), (15, .int (dueS S T)), (16, .int (brg S R T)), (0, .ref (bs)), (1, .ref (a 13)), (2, .ref (b 0)), (3, .int (nI tm)), (5, .int (nI T)), (6, .int (nI R)), (7, .ref (x 0)), (8, .ref (x 1)), (9, .ref (x 2)), (10, .ref (x 3)), (11, .ref (x 4)), (12, .ref (x 5))]) hx hb dL_law_543 hl (by decide) rfl (fun ls hl => ?_)
        have e18 : (bOw S r) + 0 = bOw S (r + 1) := by symm; show _ + (if _ then _ else _) = _; rw [if_pos c3] <;> rfl
        rw [e18] at hl
        have hl : lv_has ls 25 [(18, .int (bOw S (r + 1))), (17, .int ((sma 0 (S 5) r) + (S 5 r))), (21, .int (0)), (20, .int (S 5 r)), (19, .int (nI r)), (13, .int (dmx (bPr S R) T)), (14, .int (smn (S 3) T)), (15, .int (dueS S T)), (16, .int (brg S R T)), (0, .ref (bs)), (1, .ref (a 13)), (2, .ref (b 0)), (3, .int (nI tm)), (5, .int (nI T)), (6, .int (nI R)), (7, .ref (x 0)), (8, .ref (x 1)), (9, .ref (x 2)), (10, .ref (x 3)), (11, .ref (x 4)), (12, .ref (x 5))] := hl
        refine lv_iconst (v := 0) hx hb dL_law_545 (by decide) ?_
        refine lv_istore (lv' := [(22, .int (0)), (18, .int (bOw S (r + 1))), (17, .int ((sma 0 (S 5) r) + (S 5 r))), (21, .int (0)), (20, .int (S 5 r)), (19, .int (nI r)), (13, .int (dmx (bPr S R) T)), (14, .int (smn (S 3) T)), (15, .int (dueS S T)), (16, .int (brg S R T)), (0, .ref (bs)), (1, .ref (a 13)), (2, .ref (b 0)), (3, .int (nI tm)), (5, .int (nI T)), (6, .int (nI R)), (7, .ref (x 0)), (8, .ref (x 1)), (9, .ref (x 2)), (10, .ref (x 3)), (11, .ref (x 4)), (12, .ref (x 5))]) hx hb dL_law_546 hl (by decide) rfl (fun ls hl => ?_)
        refine loopU (P := fun j => ∀ ls : Array Slot, lv_has ls 25 [(22, .int (nI j)), (20, .int (sma (S 5 r) (fun t => bPr S R t * S (7 + r) t) j)), (21, .int (bSh S j r)), (19, .int (nI r)), (17, .int (sma 0 (S 5) r + S 5 r)), (18, .int (bOw S (r + 1))), (13, .int (dmx (bPr S R) T)), (14, .int (smn (S 3) T)), (15, .int (dueS S T)), (16, .int (brg S R T)), (0, .ref (bs)), (1, .ref (a 13)), (2, .ref (b 0)), (3, .int (nI tm)), (5, .int (nI T)), (6, .int (nI R)), (7, .ref (x 0)), (8, .ref (x 1)), (9, .ref (x 2)), (10, .ref (x 3)), (11, .ref (x 4)), (12, .ref (x 5))] → W p l e room_1 s m args below meth c H locs cells slots (Q) (F0 m 548 ls [])) (T) ?_ ?_ 0 (by omega) ls (by first | exact lv_sub hl [0, 4, 3, 5, 2, 1, 6, 7, 8, 9, 10, 11, 12, 13, 14, 15, 16, 17, 18, 19, 20, 21] rfl | (simpa using lv_sub hl [0, 4, 3, 5, 2, 1, 6, 7, 8, 9, 10, 11, 12, 13, 14, 15, 16, 17, 18, 19, 20, 21] rfl))
        · intro ls hl
          refine lv_iload hx hb dL_law_548 (lv_at hl 0 rfl) ?_
          refine lv_iload hx hb dL_law_550 (lv_at hl 14 rfl) ?_
          refine jge (i := T) (j := T) (tgt := 601) hC dL_law_552 (by decide) rfl rfl (by omega) (by omega) (fun c4 => ?_) (fun c4 => ?_)
          · refine lv_aload_n hx hb dL_law_601 rfl (lv_at hl 11 rfl) ?_
            refine lv_iload hx hb dL_law_602 (lv_at hl 3 rfl) ?_
            refine kL_X0_worthOf hC (c_X0_worthOf l D cI cQ a S hJ.1 (r := r) (by omega)) hB rfl ⟨rfl, rfl⟩ ⟨Nat.le_of_ble_eq_true rfl, Nat.le_of_ble_eq_true rfl⟩ ⟨by omega, by omega⟩ hl.1 rfl (Nat.le_of_ble_eq_true rfl) dL_law_604 ?_
            refine lv_iload hx hb dL_law_607 (lv_at hl 1 rfl) ?_
            refine lv_icmp_ne (tgt := 636) hx hb dL_law_609 (by decide) (fun c5 => ?_) (fun c5 => ?_)
            · exfalso; exact c5 (hJ.wo2 hr)
            · refine lv_aload_n hx hb dL_law_612 rfl (lv_at hl 11 rfl) ?_
              refine lv_iload hx hb dL_law_613 (lv_at hl 3 rfl) ?_
              refine kL_X0_shortsOf hC (c_X0_shortsOf l D cI cQ a S hJ.1 (r := r) (by omega)) hB rfl ⟨rfl, rfl⟩ ⟨Nat.le_of_ble_eq_true rfl, Nat.le_of_ble_eq_true rfl⟩ ⟨by omega, by omega⟩ hl.1 rfl (Nat.le_of_ble_eq_true rfl) dL_law_615 ?_
              refine lv_iload hx hb dL_law_618 (lv_at hl 2 rfl) ?_
              refine lv_icmp_ne (tgt := 636) hx hb dL_law_620 (by decide) (fun c6 => ?_) (fun c6 => ?_)
              · exfalso; exact c6 rfl
              · refine lv_iload hx hb dL_law_623 (lv_at hl 1 rfl) ?_
                refine lv_aload_n hx hb dL_law_625 rfl (lv_at hl 11 rfl) ?_
                refine lv_aload_n hx hb dL_law_626 rfl (lv_at hl 11 rfl) ?_
                have hM := c_X0_richest l D cI cQ a S hJ.1
                rw [show bRc S T R = some k9 from hk9] at hM
                refine kL_X0_richest hC hM hB rfl ⟨rfl, rfl⟩ ⟨Nat.le_of_ble_eq_true rfl, Nat.le_of_ble_eq_true rfl⟩ ⟨by omega, by omega⟩ hl.1 rfl (Nat.le_of_ble_eq_true rfl) dL_law_627 ?_
                refine kL_X0_worthOf hC (c_X0_worthOf l D cI cQ a S hJ.1 (r := k9) (by omega)) hB rfl ⟨rfl, rfl⟩ ⟨Nat.le_of_ble_eq_true rfl, Nat.le_of_ble_eq_true rfl⟩ ⟨by omega, by omega⟩ hl.1 rfl (Nat.le_of_ble_eq_true rfl) dL_law_630 ?_
                refine lv_icmp_le (tgt := 638) hx hb dL_law_633 (by decide) (fun c7 => ?_) (fun c7 => ?_)
                · refine lv_iinc (v := nI (r + 1)) (lv' := [(19, .int (nI (r + 1))), (22, .int (nI T)), (20, .int (sma (S 5 r) (fun t => bPr S R t * S (7 + r) t) T)), (21, .int (bSh S T r)), (17, .int (sma 0 (S 5) r + S 5 r)), (18, .int (bOw S (r + 1))), (13, .int (dmx (bPr S R) T)), (14, .int (smn (S 3) T)), (15, .int (dueS S T)), (16, .int (brg S R T)), (0, .ref (bs)), (1, .ref (a 13)), (2, .ref (b 0)), (3, .int (nI tm)), (5, .int (nI T)), (6, .int (nI R)), (7, .ref (x 0)), (8, .ref (x 1)), (9, .ref (x 2)), (10, .ref (x 3)), (11, .ref (x 4)), (12, .ref (x 5))]) hx hb dL_law_638 hl (k := 3) rfl (ninc r) (by decide) rfl (fun ls hl => ?_)
                  refine lv_goto (tgt := 505) hx hb dL_law_641 (by decide) ?_
                  exact rh ls (lv_sub hl [0, 4, 5, 6, 7, 8, 9, 10, 11, 12, 13, 14, 15, 16, 17, 18, 19, 20, 21] rfl)
                · exfalso; exact c7 (by rw [← hJ.wo2 hr]; exact hk9m r hr)
          · exfalso; omega
        · intro j hj jh ls hl
          refine lv_iload hx hb dL_law_548 (lv_at hl 0 rfl) ?_
          refine lv_iload hx hb dL_law_550 (lv_at hl 14 rfl) ?_
          refine jge (i := j) (j := T) (tgt := 601) hC dL_law_552 (by decide) rfl rfl (by omega) (by omega) (fun c8 => ?_) (fun c8 => ?_)
          · exfalso; omega
          · refine lv_iload hx hb dL_law_555 (lv_at hl 1 rfl) ?_
            refine lv_aload hx hb dL_law_557 (lv_at hl 17 rfl) ?_
            refine lv_iload hx hb dL_law_559 (lv_at hl 0 rfl) ?_
            refine lX_a (v := bPr S R j) 1 (j) hC hV (by omega) (by omega) rfl (by omega) ((hF j (by omega)).1.2.1) dL_law_561 ?_
            refine lv_aload hx hb dL_law_562 (lv_at hl 21 rfl) ?_
            refine lv_iload hx hb dL_law_564 (lv_at hl 3 rfl) ?_
            refine lX_r (r) hC hV (by omega) rfl (by omega) dL_law_566 ?_
            refine lv_iload hx hb dL_law_567 (lv_at hl 0 rfl) ?_
            refine lX_h (v := S (7 + r) j) (r) (j) hC hV (by omega) (by omega) rfl (by omega) ((hF j (by omega)).2 r (by omega)) dL_law_569 ?_
            refine lv_imul hx hb dL_law_570 ?_
            refine lv_iadd hx hb dL_law_571 ?_
            refine lv_istore (lv' := [(20, .int ((sma (S 5 r) (fun t => bPr S R t * S (7 + r) t) j) + ((bPr S R j) * (S (7 + r) j)))), (22, .int (nI j)), (21, .int (bSh S j r)), (19, .int (nI r)), (17, .int (sma 0 (S 5) r + S 5 r)), (18, .int (bOw S (r + 1))), (13, .int (dmx (bPr S R) T)), (14, .int (smn (S 3) T)), (15, .int (dueS S T)), (16, .int (brg S R T)), (0, .ref (bs)), (1, .ref (a 13)), (2, .ref (b 0)), (3, .int (nI tm)), (5, .int (nI T)), (6, .int (nI R)), (7, .ref (x 0)), (8, .ref (x 1)), (9, .ref (x 2)), (10, .ref (x 3)), (11, .ref (x 4)), (12, .ref (x 5))]) hx hb dL_law_572 hl (by decide) rfl (fun ls hl => ?_)
            refine lv_iload hx hb dL_law_574 (lv_at hl 2 rfl) ?_
            refine lv_aload hx hb dL_law_576 (lv_at hl 21 rfl) ?_
            refine lv_iload hx hb dL_law_578 (lv_at hl 3 rfl) ?_
            refine lX_r (r) hC hV (by omega) rfl (by omega) dL_law_580 ?_
            refine lv_iload hx hb dL_law_581 (lv_at hl 1 rfl) ?_
            refine lX_h (v := S (7 + r) j) (r) (j) hC hV (by omega) (by omega) rfl (by omega) ((hF j (by omega)).2 r (by omega)) dL_law_583 ?_
            refine lv_if_ge (tgt := 591) hx hb dL_law_584 (by decide) (fun c9 => ?_) (fun c9 => ?_)
            · refine lv_iconst (v := 0) hx hb dL_law_591 (by decide) ?_
              refine lv_iadd hx hb dL_law_592 ?_
              refine lv_istore (lv' := [(21, .int ((bSh S j r) + 0)), (20, .int ((sma (S 5 r) (fun t => bPr S R t * S (7 + r) t) j) + ((bPr S R j) * (S (7 + r) j)))), (22, .int (nI j)), (19, .int (nI r)), (17, .int (sma 0 (S 5) r + S 5 r)), (18, .int (bOw S (r + 1))), (13, .int (dmx (bPr S R) T)), (14, .int (smn (S 3) T)), (15, .int (dueS S T)), (16, .int (brg S R T)), (0, .ref (bs)), (1, .ref (a 13)), (2, .ref (b 0)), (3, .int (nI tm)), (5, .int (nI T)), (6, .int (nI R)), (7, .ref (x 0)), (8, .ref (x 1)), (9, .ref (x 2)), (10, .ref (x 3)), (11, .ref (x 4)), (12, .ref (x 5))]) hx hb dL_law_593 hl (by decide) rfl (fun ls hl => ?_)
              refine lv_iinc (v := nI (j + 1)) (lv' := [(22, .int (nI (j + 1))), (21, .int ((bSh S j r) + 0)), (20, .int ((sma (S 5 r) (fun t => bPr S R t * S (7 + r) t) j) + ((bPr S R j) * (S (7 + r) j)))), (19, .int (nI r)), (17, .int (sma 0 (S 5) r + S 5 r)), (18, .int (bOw S (r + 1))), (13, .int (dmx (bPr S R) T)), (14, .int (smn (S 3) T)), (15, .int (dueS S T)), (16, .int (brg S R T)), (0, .ref (bs)), (1, .ref (a 13)), (2, .ref (b 0)), (3, .int (nI tm)), (5, .int (nI T)), (6, .int (nI R)), (7, .ref (x 0)), (8, .ref (x 1)), (9, .ref (x 2)), (10, .ref (x 3)), (11, .ref (x 4)), (12, .ref (x 5))]) hx hb dL_law_595 hl (k := 2) rfl (ninc j) (by decide) rfl (fun ls hl => ?_)
              refine lv_goto (tgt := 548) hx hb dL_law_598 (by decide) ?_
              have e10 : bSh S (j + 1) r = (bSh S j r) + 0 := by show _ + (if _ then _ else _) = _; rw [if_pos c9] <;> rfl
              exact jh ls (by rw [e10]; exact lv_sub hl [0, 2, 1, 3, 4, 5, 6, 7, 8, 9, 10, 11, 12, 13, 14, 15, 16, 17, 18, 19, 20, 21] rfl)
            · refine lv_iconst (v := 1) hx hb dL_law_587 (by decide) ?_
              refine lv_goto (tgt := 592) hx hb dL_law_588 (by decide) ?_
              refine lv_iadd hx hb dL_law_592 ?_
              refine lv_istore (lv' := [(21, .int ((bSh S j r) + 1)), (20, .int ((sma (S 5 r) (fun t => bPr S R t * S (7 + r) t) j) + ((bPr S R j) * (S (7 + r) j)))), (22, .int (nI j)), (19, .int (nI r)), (17, .int (sma 0 (S 5) r + S 5 r)), (18, .int (bOw S (r + 1))), (13, .int (dmx (bPr S R) T)), (14, .int (smn (S 3) T)), (15, .int (dueS S T)), (16, .int (brg S R T)), (0, .ref (bs)), (1, .ref (a 13)), (2, .ref (b 0)), (3, .int (nI tm)), (5, .int (nI T)), (6, .int (nI R)), (7, .ref (x 0)), (8, .ref (x 1)), (9, .ref (x 2)), (10, .ref (x 3)), (11, .ref (x 4)), (12, .ref (x 5))]) hx hb dL_law_593 hl (by decide) rfl (fun ls hl => ?_)
              refine lv_iinc (v := nI (j + 1)) (lv' := [(22, .int (nI (j + 1))), (21, .int ((bSh S j r) + 1)), (20, .int ((sma (S 5 r) (fun t => bPr S R t * S (7 + r) t) j) + ((bPr S R j) * (S (7 + r) j)))), (19, .int (nI r)), (17, .int (sma 0 (S 5) r + S 5 r)), (18, .int (bOw S (r + 1))), (13, .int (dmx (bPr S R) T)), (14, .int (smn (S 3) T)), (15, .int (dueS S T)), (16, .int (brg S R T)), (0, .ref (bs)), (1, .ref (a 13)), (2, .ref (b 0)), (3, .int (nI tm)), (5, .int (nI T)), (6, .int (nI R)), (7, .ref (x 0)), (8, .ref (x 1)), (9, .ref (x 2)), (10, .ref (x 3)), (11, .ref (x 4)), (12, .ref (x 5))]) hx hb dL_law_595 hl (k := 2) rfl (ninc j) (by decide) rfl (fun ls hl => ?_)
              refine lv_goto (tgt := 548) hx hb dL_law_598 (by decide) ?_
              have e11 : bSh S (j + 1) r = (bSh S j r) + 1 := by show _ + (if _ then _ else _) = _; rw [if_neg c9] <;> rfl
              exact jh ls (by rw [e11]; exact lv_sub hl [0, 2, 1, 3, 4, 5, 6, 7, 8, 9, 10, 11, 12, 13, 14, 15, 16, 17, 18, 19, 20, 21] rfl)
      · refine lv_iconst (v := 1) hx hb dL_law_537 (by decide) ?_
        refine lv_goto (tgt := 542) hx hb dL_law_538 (by decide) ?_
        refine lv_iadd hx hb dL_law_542 ?_
        refine lv_istore (lv' := [(18, .int ((bOw S r) + 1)), (17, .int ((sma 0 (S 5) r) + (S 5 r))), (21, .int (0)), (20, .int (S 5 r)), (19, .int (nI r)), (13, .int (dmx (bPr S R) T)), (14, .int (smn (S 3) T)), (15, .int (dueS S T)), (16, .int (brg S R T)), (0, .ref (bs)), (1, .ref (a 13)), (2, .ref (b 0)), (3, .int (nI tm)), (5, .int (nI T)), (6, .int (nI R)), (7, .ref (x 0)), (8, .ref (x 1)), (9, .ref (x 2)), (10, .ref (x 3)), (11, .ref (x 4)), (12, .ref (x 5))]) hx hb dL_law_543 hl (by decide) rfl (fun ls hl => ?_)
        have e18 : (bOw S r) + 1 = bOw S (r + 1) := by symm; show _ + (if _ then _ else _) = _; rw [if_neg c3] <;> rfl
        rw [e18] at hl
        have hl : lv_has ls 25 [(18, .int (bOw S (r + 1))), (17, .int ((sma 0 (S 5) r) + (S 5 r))), (21, .int (0)), (20, .int (S 5 r)), (19, .int (nI r)), (13, .int (dmx (bPr S R) T)), (14, .int (smn (S 3) T)), (15, .int (dueS S T)), (16, .int (brg S R T)), (0, .ref (bs)), (1, .ref (a 13)), (2, .ref (b 0)), (3, .int (nI tm)), (5, .int (nI T)), (6, .int (nI R)), (7, .ref (x 0)), (8, .ref (x 1)), (9, .ref (x 2)), (10, .ref (x 3)), (11, .ref (x 4)), (12, .ref (x 5))] := hl
        refine lv_iconst (v := 0) hx hb dL_law_545 (by decide) ?_
        refine lv_istore (lv' := [(22, .int (0)), (18, .int (bOw S (r + 1))), (17, .int ((sma 0 (S 5) r) + (S 5 r))), (21, .int (0)), (20, .int (S 5 r)), (19, .int (nI r)), (13, .int (dmx (bPr S R) T)), (14, .int (smn (S 3) T)), (15, .int (dueS S T)), (16, .int (brg S R T)), (0, .ref (bs)), (1, .ref (a 13)), (2, .ref (b 0)), (3, .int (nI tm)), (5, .int (nI T)), (6, .int (nI R)), (7, .ref (x 0)), (8, .ref (x 1)), (9, .ref (x 2)), (10, .ref (x 3)), (11, .ref (x 4)), (12, .ref (x 5))]) hx hb dL_law_546 hl (by decide) rfl (fun ls hl => ?_)
        refine loopU (P := fun j => ∀ ls : Array Slot, lv_has ls 25 [(22, .int (nI j)), (20, .int (sma (S 5 r) (fun t => bPr S R t * S (7 + r) t) j)), (21, .int (bSh S j r)), (19, .int (nI r)), (17, .int (sma 0 (S 5) r + S 5 r)), (18, .int (bOw S (r + 1))), (13, .int (dmx (bPr S R) T)), (14, .int (smn (S 3) T)), (15, .int (dueS S T)), (16, .int (brg S R T)), (0, .ref (bs)), (1, .ref (a 13)), (2, .ref (b 0)), (3, .int (nI tm)), (5, .int (nI T)), (6, .int (nI R)), (7, .ref (x 0)), (8, .ref (x 1)), (9, .ref (x 2)), (10, .ref (x 3)), (11, .ref (x 4)), (12, .ref (x 5))] → W p l e room_1 s m args below meth c H locs cells slots (Q) (F0 m 548 ls [])) (T) ?_ ?_ 0 (by omega) ls (by first | exact lv_sub hl [0, 4, 3, 5, 2, 1, 6, 7, 8, 9, 10, 11, 12, 13, 14, 15, 16, 17, 18, 19, 20, 21] rfl | (simpa using lv_sub hl [0, 4, 3, 5, 2, 1, 6, 7, 8, 9, 10, 11, 12, 13, 14, 15, 16, 17, 18, 19, 20, 21] rfl))
        · intro ls hl
          refine lv_iload hx hb dL_law_548 (lv_at hl 0 rfl) ?_
          refine lv_iload hx hb dL_law_550 (lv_at hl 14 rfl) ?_
          refine jge (i := T) (j := T) (tgt := 601) hC dL_law_552 (by decide) rfl rfl (by omega) (by omega) (fun c12 => ?_) (fun c12 => ?_)
          · refine lv_aload_n hx hb dL_law_601 rfl (lv_at hl 11 rfl) ?_
            refine lv_iload hx hb dL_law_602 (lv_at hl 3 rfl) ?_
            refine kL_X0_worthOf hC (c_X0_worthOf l D cI cQ a S hJ.1 (r := r) (by omega)) hB rfl ⟨rfl, rfl⟩ ⟨Nat.le_of_ble_eq_true rfl, Nat.le_of_ble_eq_true rfl⟩ ⟨by omega, by omega⟩ hl.1 rfl (Nat.le_of_ble_eq_true rfl) dL_law_604 ?_
            refine lv_iload hx hb dL_law_607 (lv_at hl 1 rfl) ?_
            refine lv_icmp_ne (tgt := 636) hx hb dL_law_609 (by decide) (fun c13 => ?_) (fun c13 => ?_)
            · exfalso; exact c13 (hJ.wo2 hr)
            · refine lv_aload_n hx hb dL_law_612 rfl (lv_at hl 11 rfl) ?_
              refine lv_iload hx hb dL_law_613 (lv_at hl 3 rfl) ?_
              refine kL_X0_shortsOf hC (c_X0_shortsOf l D cI cQ a S hJ.1 (r := r) (by omega)) hB rfl ⟨rfl, rfl⟩ ⟨Nat.le_of_ble_eq_true rfl, Nat.le_of_ble_eq_true rfl⟩ ⟨by omega, by omega⟩ hl.1 rfl (Nat.le_of_ble_eq_true rfl) dL_law_615 ?_
              refine lv_iload hx hb dL_law_618 (lv_at hl 2 rfl) ?_
              refine lv_icmp_ne (tgt := 636) hx hb dL_law_620 (by decide) (fun c14 => ?_) (fun c14 => ?_)
              · exfalso; exact c14 rfl
              · refine lv_iload hx hb dL_law_623 (lv_at hl 1 rfl) ?_
                refine lv_aload_n hx hb dL_law_625 rfl (lv_at hl 11 rfl) ?_
                refine lv_aload_n hx hb dL_law_626 rfl (lv_at hl 11 rfl) ?_
                have hM := c_X0_richest l D cI cQ a S hJ.1
                rw [show bRc S T R = some k9 from hk9] at hM
                refine kL_X0_richest hC hM hB rfl ⟨rfl, rfl⟩ ⟨Nat.le_of_ble_eq_true rfl, Nat.le_of_ble_eq_true rfl⟩ ⟨by omega, by omega⟩ hl.1 rfl (Nat.le_of_ble_eq_true rfl) dL_law_627 ?_
                refine kL_X0_worthOf hC (c_X0_worthOf l D cI cQ a S hJ.1 (r := k9) (by omega)) hB rfl ⟨rfl, rfl⟩ ⟨Nat.le_of_ble_eq_true rfl, Nat.le_of_ble_eq_true rfl⟩ ⟨by omega, by omega⟩ hl.1 rfl (Nat.le_of_ble_eq_true rfl) dL_law_630 ?_
                refine lv_icmp_le (tgt := 638) hx hb dL_law_633 (by decide) (fun c15 => ?_) (fun c15 => ?_)
                · refine lv_iinc (v := nI (r + 1)) (lv' := [(19, .int (nI (r + 1))), (22, .int (nI T)), (20, .int (sma (S 5 r) (fun t => bPr S R t * S (7 + r) t) T)), (21, .int (bSh S T r)), (17, .int (sma 0 (S 5) r + S 5 r)), (18, .int (bOw S (r + 1))), (13, .int (dmx (bPr S R) T)), (14, .int (smn (S 3) T)), (15, .int (dueS S T)), (16, .int (brg S R T)), (0, .ref (bs)), (1, .ref (a 13)), (2, .ref (b 0)), (3, .int (nI tm)), (5, .int (nI T)), (6, .int (nI R)), (7, .ref (x 0)), (8, .ref (x 1)), (9, .ref (x 2)), (10, .ref (x 3)), (11, .ref (x 4)), (12, .ref (x 5))]) hx hb dL_law_638 hl (k := 3) rfl (ninc r) (by decide) rfl (fun ls hl => ?_)
                  refine lv_goto (tgt := 505) hx hb dL_law_641 (by decide) ?_
                  exact rh ls (lv_sub hl [0, 4, 5, 6, 7, 8, 9, 10, 11, 12, 13, 14, 15, 16, 17, 18, 19, 20, 21] rfl)
                · exfalso; exact c15 (by rw [← hJ.wo2 hr]; exact hk9m r hr)
          · exfalso; omega
        · intro j hj jh ls hl
          refine lv_iload hx hb dL_law_548 (lv_at hl 0 rfl) ?_
          refine lv_iload hx hb dL_law_550 (lv_at hl 14 rfl) ?_
          refine jge (i := j) (j := T) (tgt := 601) hC dL_law_552 (by decide) rfl rfl (by omega) (by omega) (fun c16 => ?_) (fun c16 => ?_)
          · exfalso; omega
          · refine lv_iload hx hb dL_law_555 (lv_at hl 1 rfl) ?_
            refine lv_aload hx hb dL_law_557 (lv_at hl 17 rfl) ?_
            refine lv_iload hx hb dL_law_559 (lv_at hl 0 rfl) ?_
            refine lX_a (v := bPr S R j) 1 (j) hC hV (by omega) (by omega) rfl (by omega) ((hF j (by omega)).1.2.1) dL_law_561 ?_
            refine lv_aload hx hb dL_law_562 (lv_at hl 21 rfl) ?_
            refine lv_iload hx hb dL_law_564 (lv_at hl 3 rfl) ?_
            refine lX_r (r) hC hV (by omega) rfl (by omega) dL_law_566 ?_
            refine lv_iload hx hb dL_law_567 (lv_at hl 0 rfl) ?_
            refine lX_h (v := S (7 + r) j) (r) (j) hC hV (by omega) (by omega) rfl (by omega) ((hF j (by omega)).2 r (by omega)) dL_law_569 ?_
            refine lv_imul hx hb dL_law_570 ?_
            refine lv_iadd hx hb dL_law_571 ?_
            refine lv_istore (lv' := [(20, .int ((sma (S 5 r) (fun t => bPr S R t * S (7 + r) t) j) + ((bPr S R j) * (S (7 + r) j)))), (22, .int (nI j)), (21, .int (bSh S j r)), (19, .int (nI r)), (17, .int (sma 0 (S 5) r + S 5 r)), (18, .int (bOw S (r + 1))), (13, .int (dmx (bPr S R) T)), (14, .int (smn (S 3) T)), (15, .int (dueS S T)), (16, .int (brg S R T)), (0, .ref (bs)), (1, .ref (a 13)), (2, .ref (b 0)), (3, .int (nI tm)), (5, .int (nI T)), (6, .int (nI R)), (7, .ref (x 0)), (8, .ref (x 1)), (9, .ref (x 2)), (10, .ref (x 3)), (11, .ref (x 4)), (12, .ref (x 5))]) hx hb dL_law_572 hl (by decide) rfl (fun ls hl => ?_)
            refine lv_iload hx hb dL_law_574 (lv_at hl 2 rfl) ?_
            refine lv_aload hx hb dL_law_576 (lv_at hl 21 rfl) ?_
            refine lv_iload hx hb dL_law_578 (lv_at hl 3 rfl) ?_
            refine lX_r (r) hC hV (by omega) rfl (by omega) dL_law_580 ?_
            refine lv_iload hx hb dL_law_581 (lv_at hl 1 rfl) ?_
            refine lX_h (v := S (7 + r) j) (r) (j) hC hV (by omega) (by omega) rfl (by omega) ((hF j (by omega)).2 r (by omega)) dL_law_583 ?_
            refine lv_if_ge (tgt := 591) hx hb dL_law_584 (by decide) (fun c17 => ?_) (fun c17 => ?_)
            · refine lv_iconst (v := 0) hx hb dL_law_591 (by decide) ?_
              refine lv_iadd hx hb dL_law_592 ?_
              refine lv_istore (lv' := [(21, .int ((bSh S j r) + 0)), (20, .int ((sma (S 5 r) (fun t => bPr S R t * S (7 + r) t) j) + ((bPr S R j) * (S (7 + r) j)))), (22, .int (nI j)), (19, .int (nI r)), (17, .int (sma 0 (S 5) r + S 5 r)), (18, .int (bOw S (r + 1))), (13, .int (dmx (bPr S R) T)), (14, .int (smn (S 3) T)), (15, .int (dueS S T)), (16, .int (brg S R T)), (0, .ref (bs)), (1, .ref (a 13)), (2, .ref (b 0)), (3, .int (nI tm)), (5, .int (nI T)), (6, .int (nI R)), (7, .ref (x 0)), (8, .ref (x 1)), (9, .ref (x 2)), (10, .ref (x 3)), (11, .ref (x 4)), (12, .ref (x 5))]) hx hb dL_law_593 hl (by decide) rfl (fun ls hl => ?_)
              refine lv_iinc (v := nI (j + 1)) (lv' := [(22, .int (nI (j + 1))), (21, .int ((bSh S j r) + 0)), (20, .int ((sma (S 5 r) (fun t => bPr S R t * S (7 + r) t) j) + ((bPr S R j) * (S (7 + r) j)))), (19, .int (nI r)), (17, .int (sma 0 (S 5) r + S 5 r)), (18, .int (bOw S (r + 1))), (13, .int (dmx (bPr S R) T)), (14, .int (smn (S 3) T)), (15, .int (dueS S T)), (16, .int (brg S R T)), (0, .ref (bs)), (1, .ref (a 13)), (2, .ref (b 0)), (3, .int (nI tm)), (5, .int (nI T)), (6, .int (nI R)), (7, .ref (x 0)), (8, .ref (x 1)), (9, .ref (x 2)), (10, .ref (x 3)), (11, .ref (x 4)), (12, .ref (x 5))]) hx hb dL_law_595 hl (k := 2) rfl (ninc j) (by decide) rfl (fun ls hl => ?_)
              refine lv_goto (tgt := 548) hx hb dL_law_598 (by decide) ?_
              have e18 : bSh S (j + 1) r = (bSh S j r) + 0 := by show _ + (if _ then _ else _) = _; rw [if_pos c17] <;> rfl
              exact jh ls (by rw [e18]; exact lv_sub hl [0, 2, 1, 3, 4, 5, 6, 7, 8, 9, 10, 11, 12, 13, 14, 15, 16, 17, 18, 19, 20, 21] rfl)
            · refine lv_iconst (v := 1) hx hb dL_law_587 (by decide) ?_
              refine lv_goto (tgt := 592) hx hb dL_law_588 (by decide) ?_
              refine lv_iadd hx hb dL_law_592 ?_
              refine lv_istore (lv' := [(21, .int ((bSh S j r) + 1)), (20, .int ((sma (S 5 r) (fun t => bPr S R t * S (7 + r) t) j) + ((bPr S R j) * (S (7 + r) j)))), (22, .int (nI j)), (19, .int (nI r)), (17, .int (sma 0 (S 5) r + S 5 r)), (18, .int (bOw S (r + 1))), (13, .int (dmx (bPr S R) T)), (14, .int (smn (S 3) T)), (15, .int (dueS S T)), (16, .int (brg S R T)), (0, .ref (bs)), (1, .ref (a 13)), (2, .ref (b 0)), (3, .int (nI tm)), (5, .int (nI T)), (6, .int (nI R)), (7, .ref (x 0)), (8, .ref (x 1)), (9, .ref (x 2)), (10, .ref (x 3)), (11, .ref (x 4)), (12, .ref (x 5))]) hx hb dL_law_593 hl (by decide) rfl (fun ls hl => ?_)
              refine lv_iinc (v := nI (j + 1)) (lv' := [(22, .int (nI (j + 1))), (21, .int ((bSh S j r) + 1)), (20, .int ((sma (S 5 r) (fun t => bPr S R t * S (7 + r) t) j) + ((bPr S R j) * (S (7 + r) j)))), (19, .int (nI r)), (17, .int (sma 0 (S 5) r + S 5 r)), (18, .int (bOw S (r + 1))), (13, .int (dmx (bPr S R) T)), (14, .int (smn (S 3) T)), (15, .int (dueS S T)), (16, .int (brg S R T)), (0, .ref (bs)), (1, .ref (a 13)), (2, .ref (b 0)), (3, .int (nI tm)), (5, .int (nI T)), (6, .int (nI R)), (7, .ref (x 0)), (8, .ref (x 1)), (9, .ref (x 2)), (10, .ref (x 3)), (11, .ref (x 4)), (12, .ref (x 5))]) hx hb dL_law_595 hl (k := 2) rfl (ninc j) (by decide) rfl (fun ls hl => ?_)
              refine lv_goto (tgt := 548) hx hb dL_law_598 (by decide) ?_
              have e19 : bSh S (j + 1) r = (bSh S j r) + 1 := by show _ + (if _ then _ else _) = _; rw [if_neg c17] <;> rfl
              exact jh ls (by rw [e19]; exact lv_sub hl [0, 2, 1, 3, 4, 5, 6, 7, 8, 9, 10, 11, 12, 13, 14, 15, 16, 17, 18, 19, 20, 21] rfl)

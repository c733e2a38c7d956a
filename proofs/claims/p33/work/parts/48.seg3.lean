set_option maxHeartbeats 8000000 in
set_option maxRecDepth 100000 in
theorem law_s3 {p : Program} {l : Launch} {e : Env} {s : State} {m : MethodId} {args : Array Value} {below : List Frame} {meth : Method} {c : Code} {Q : State → Prop} {bs tm cells slots : Nat} {D : va_G} {cI cQ : ClassId} {a b x : Nat → Nat} {S N : bS} {T R sec : Nat} {w9 p9 bt9 u9 q9 : Nat → Nat} (hC : CallFix p m c cL_law 25 s args wsL_law RL) (hJ : Jc S N T R sec w9 p9 bt9 u9 q9) (hd : Dsx a b x T R s.heap.size) (hc1 : cells + 1 ≤ room_1.cells) (hc2 : slots + 8 ≤ room_1.slots) (hT1 : 1 ≤ T) {H : Heap} {locs : List Loc} {ls : Array Slot} (hW : L1 D cI cQ a b x S N T R (fun F => FP S R F T) s H) (hS : va_S (fun q => s.heap.size ≤ q) s.heap H locs) (hl : lv_has ls 25 [(17, .int (sma 0 (S 5) R)), (18, .int (bOw S R)), (13, .int (dmx (bPr S R) T)), (14, .int (smn (S 3) T)), (15, .int (dueS S T)), (16, .int (brg S R T)), (0, .ref (bs)), (1, .ref (a 13)), (2, .ref (b 0)), (3, .int (nI tm)), (5, .int (nI T)), (6, .int (nI R)), (7, .ref (x 0)), (8, .ref (x 1)), (9, .ref (x 2)), (10, .ref (x 3)), (11, .ref (x 4)), (12, .ref (x 5))]) (K : ∀ (H : Heap) (locs : List Loc) (ls : Array Slot), L1 D cI cQ a b x (bPa S T R 1) (nGo N (sPr N) R T) T R (fun F => FP S R F T) s H → va_S (fun q => s.heap.size ≤ q) s.heap H locs → lv_has ls 25 [(0, .ref (bs)), (1, .ref (a 13)), (2, .ref (b 0)), (3, .int (nI tm)), (5, .int (nI T)), (6, .int (nI R)), (7, .ref (x 0)), (8, .ref (x 1)), (9, .ref (x 2)), (10, .ref (x 3)), (11, .ref (x 4)), (12, .ref (x 5))] → W p l e room_1 s m args below meth c H locs (cells + 1) (slots + 8) Q (F0 m 768 ls [])) : W p l e room_1 s m args below meth c H locs cells slots Q (F0 m 644 ls []) := by
  have hx := hC.1
  have hb := hC.2.1
  have hT8 := hJ.T8
  have hR6 := hJ.R6
  have hP := hJ.hP
  obtain ⟨hds, hax, hbx, haA, hbA, hxA⟩ := hd
  have hAB : ∀ q, inB a q → (fun q => s.heap.size ≤ q) q := fun q ⟨k, hk, e⟩ => by rw [e]; exact haA k hk
  have hAN : ∀ q, inG (10 + T) b q → (fun q => s.heap.size ≤ q) q := fun q ⟨k, hk, e⟩ => by rw [e]; exact hbA k hk
  have hAX : ∀ q, inG (6 + R) x q → (fun q => s.heap.size ≤ q) q := fun q ⟨k, hk, e⟩ => by rw [e]; exact hxA k hk
  obtain ⟨hB, hN, F, hV, hF⟩ := hW
  obtain ⟨kd, hkd, hkdT, -⟩ := amx_ex (f := bPr S R) T hT1
  obtain ⟨kn, hkn, hknT⟩ := amn_ex (f := S 3) T hT1
  refine lv_aload_n hx hb dL_law_644 rfl (lv_at hl 7 rfl) ?_
  refine lv_aload_n hx hb dL_law_645 rfl (lv_at hl 7 rfl) ?_
  have hM := c_X0_dearest l D cI cQ a S hJ.1
  rw [show bDe S T R = some kd from hkd] at hM
  refine kL_X0_dearest hC hM hB rfl ⟨rfl, rfl⟩ ⟨Nat.le_of_ble_eq_true rfl, Nat.le_of_ble_eq_true rfl⟩ ⟨by omega, by omega⟩ hl.1 rfl (Nat.le_of_ble_eq_true rfl) dL_law_646 ?_
  refine kL_X0_priceOf hC (c_X0_priceOf l D cI cQ a S hJ.1 (t := kd) (by omega)) hB rfl ⟨rfl, rfl⟩ ⟨Nat.le_of_ble_eq_true rfl, Nat.le_of_ble_eq_true rfl⟩ ⟨by omega, by omega⟩ hl.1 rfl (Nat.le_of_ble_eq_true rfl) dL_law_649 ?_
  refine lv_iload hx hb dL_law_652 (lv_at hl 2 rfl) ?_
  refine lv_icmp_ne (tgt := 688) hx hb dL_law_654 (by decide) (fun c1 => ?_) (fun c1 => ?_)
  · exfalso; exact c1 (hJ.dear hkd)
  · refine lv_aload_n hx hb dL_law_657 rfl (lv_at hl 7 rfl) ?_
    refine lv_aload_n hx hb dL_law_658 rfl (lv_at hl 7 rfl) ?_
    have hM := c_X0_nextToStrike l D cI cQ a S hJ.1
    rw [show bNx S T = some kn from hkn] at hM
    refine kL_X0_nextToStrike hC hM hB rfl ⟨rfl, rfl⟩ ⟨Nat.le_of_ble_eq_true rfl, Nat.le_of_ble_eq_true rfl⟩ ⟨by omega, by omega⟩ hl.1 rfl (Nat.le_of_ble_eq_true rfl) dL_law_659 ?_
    refine kL_X0_secondsUntilStroke hC (c_X0_secondsUntilStroke l D cI cQ a S hJ.1 (t := kn) (by omega)) hB rfl ⟨rfl, rfl⟩ ⟨Nat.le_of_ble_eq_true rfl, Nat.le_of_ble_eq_true rfl⟩ ⟨by omega, by omega⟩ hl.1 rfl (Nat.le_of_ble_eq_true rfl) dL_law_662 ?_
    refine lv_iload hx hb dL_law_665 (lv_at hl 3 rfl) ?_
    refine lv_icmp_ne (tgt := 688) hx hb dL_law_667 (by decide) (fun c2 => ?_) (fun c2 => ?_)
    · exfalso; exact c2 (hJ.soon hkn)
    · refine lv_aload_n hx hb dL_law_670 rfl (lv_at hl 7 rfl) ?_
      refine kL_X0_inDebt hC (c_X0_inDebt l D cI cQ a S hJ.1) hB rfl ⟨rfl, rfl⟩ ⟨Nat.le_of_ble_eq_true rfl, Nat.le_of_ble_eq_true rfl⟩ ⟨by omega, by omega⟩ hl.1 rfl (Nat.le_of_ble_eq_true rfl) dL_law_671 ?_
      refine lv_iload hx hb dL_law_674 (lv_at hl 1 rfl) ?_
      refine lv_icmp_ne (tgt := 688) hx hb dL_law_676 (by decide) (fun c3 => ?_) (fun c3 => ?_)
      · exfalso; exact c3 rfl
      · refine lv_aload_n hx hb dL_law_679 rfl (lv_at hl 7 rfl) ?_
        refine kL_X0_bestToBuy hC (c_X0_bestToBuy l D cI cQ a S hJ.1) hB rfl ⟨rfl, rfl⟩ ⟨Nat.le_of_ble_eq_true rfl, Nat.le_of_ble_eq_true rfl⟩ ⟨by omega, by omega⟩ hl.1 rfl (Nat.le_of_ble_eq_true rfl) dL_law_680 ?_
        refine lv_iload hx hb dL_law_683 (lv_at hl 10 rfl) ?_
        refine lv_icmp_lt (tgt := 690) hx hb dL_law_685 (by decide) (fun c4 => ?_) (fun c4 => ?_)
        · refine lv_aload_n hx hb dL_law_690 rfl (lv_at hl 7 rfl) ?_
          refine kL_X0_second hC (c_X0_second l D cI cQ a S hJ.1) hB rfl ⟨rfl, rfl⟩ ⟨Nat.le_of_ble_eq_true rfl, Nat.le_of_ble_eq_true rfl⟩ ⟨by omega, by omega⟩ hl.1 rfl (Nat.le_of_ble_eq_true rfl) dL_law_691 ?_
          refine lv_istore (lv' := [(19, .int (S 6 0)), (17, .int (sma 0 (S 5) R)), (18, .int (bOw S R)), (13, .int (dmx (bPr S R) T)), (14, .int (smn (S 3) T)), (15, .int (dueS S T)), (16, .int (brg S R T)), (0, .ref (bs)), (1, .ref (a 13)), (2, .ref (b 0)), (3, .int (nI tm)), (5, .int (nI T)), (6, .int (nI R)), (7, .ref (x 0)), (8, .ref (x 1)), (9, .ref (x 2)), (10, .ref (x 3)), (11, .ref (x 4)), (12, .ref (x 5))]) hx hb dL_law_694 hl (by decide) rfl (fun ls hl => ?_)
          refine lv_aload_n hx hb dL_law_696 rfl (lv_at hl 8 rfl) ?_
          refine lv_iconst (v := 1) hx hb dL_law_697 (by decide) ?_
          refine kxL_X0_pass hC (c_X0_pass l D cI cQ a S hJ.1 (k := 1) (by omega) (by omega)) mov_B hB rfl ⟨rfl, rfl⟩ ⟨Nat.le_of_ble_eq_true rfl, Nat.le_of_ble_eq_true rfl⟩ ⟨by omega, by omega⟩ hS hAB hl.1 rfl (Nat.le_of_ble_eq_true rfl) dL_law_698 (fun H locs hB hS hz hf => ?_)
          have hN := hN.kept (fun k hk => hf _ (hN.1.lt k hk) (fun ⟨i, hi, e⟩ => hds i k hi hk e.symm))
          have hV := hV.kept (fun k hk => hf _ (hV.lt k hk) (fun ⟨i, hi, e⟩ => hax i k hi hk e.symm))
          refine lv_istore (lv' := [(20, .int (bPc S T R 1)), (19, .int (S 6 0)), (17, .int (sma 0 (S 5) R)), (18, .int (bOw S R)), (13, .int (dmx (bPr S R) T)), (14, .int (smn (S 3) T)), (15, .int (dueS S T)), (16, .int (brg S R T)), (0, .ref (bs)), (1, .ref (a 13)), (2, .ref (b 0)), (3, .int (nI tm)), (5, .int (nI T)), (6, .int (nI R)), (7, .ref (x 0)), (8, .ref (x 1)), (9, .ref (x 2)), (10, .ref (x 3)), (11, .ref (x 4)), (12, .ref (x 5))]) hx hb dL_law_701 hl (by decide) rfl (fun ls hl => ?_)
          refine lv_aload_n hx hb dL_law_703 rfl (lv_at hl 10 rfl) ?_
          refine kzL_X1_pass hC (c_X1_pass l D cI cQ b N hT8 hR6 hP) mov_S hN rfl ⟨rfl, rfl⟩ ⟨Nat.le_of_ble_eq_true rfl, Nat.le_of_ble_eq_true rfl⟩ ⟨by omega, by omega⟩ hS hAN (fun _ h => h) hl.1 rfl (Nat.le_of_ble_eq_true rfl) dL_law_704 (fun H locs hN hS hz hf => ?_)
          have hB := hB.kept (fun k hk => hf _ (hB.lt k hk) (fun ⟨i, hi, e⟩ => hds k i hk hi e))
          have hV := hV.kept (fun k hk => hf _ (hV.lt k hk) (fun ⟨i, hi, e⟩ => hbx i k hi hk e.symm))
          refine lv_pop hx hb dL_law_707 rfl ?_
          refine lv_iconst (v := 0) hx hb dL_law_708 (by decide) ?_
          refine lv_istore (lv' := [(21, .int (0)), (20, .int (bPc S T R 1)), (19, .int (S 6 0)), (17, .int (sma 0 (S 5) R)), (18, .int (bOw S R)), (13, .int (dmx (bPr S R) T)), (14, .int (smn (S 3) T)), (15, .int (dueS S T)), (16, .int (brg S R T)), (0, .ref (bs)), (1, .ref (a 13)), (2, .ref (b 0)), (3, .int (nI tm)), (5, .int (nI T)), (6, .int (nI R)), (7, .ref (x 0)), (8, .ref (x 1)), (9, .ref (x 2)), (10, .ref (x 3)), (11, .ref (x 4)), (12, .ref (x 5))]) hx hb dL_law_709 hl (by decide) rfl (fun ls hl => ?_)
          refine lv_iconst (v := 0) hx hb dL_law_711 (by decide) ?_
          refine lv_istore (lv' := [(22, .int (0)), (21, .int (0)), (20, .int (bPc S T R 1)), (19, .int (S 6 0)), (17, .int (sma 0 (S 5) R)), (18, .int (bOw S R)), (13, .int (dmx (bPr S R) T)), (14, .int (smn (S 3) T)), (15, .int (dueS S T)), (16, .int (brg S R T)), (0, .ref (bs)), (1, .ref (a 13)), (2, .ref (b 0)), (3, .int (nI tm)), (5, .int (nI T)), (6, .int (nI R)), (7, .ref (x 0)), (8, .ref (x 1)), (9, .ref (x 2)), (10, .ref (x 3)), (11, .ref (x 4)), (12, .ref (x 5))]) hx hb dL_law_712 hl (by decide) rfl (fun ls hl => ?_)
          refine loopU (P := fun r => ∀ ls : Array Slot, lv_has ls 25 [(22, .int (nI r)), (21, .int (sma 0 (bPa S T R 1 5) r)), (19, .int (S 6 0)), (20, .int (bPc S T R 1)), (15, .int (dueS S T)), (16, .int (brg S R T)), (17, .int (sma 0 (S 5) R)), (0, .ref (bs)), (1, .ref (a 13)), (2, .ref (b 0)), (3, .int (nI tm)), (5, .int (nI T)), (6, .int (nI R)), (7, .ref (x 0)), (8, .ref (x 1)), (9, .ref (x 2)), (10, .ref (x 3)), (11, .ref (x 4)), (12, .ref (x 5))] → W p l e room_1 s m args below meth c H locs (cells + 0 + 1) (slots + 0 + 8) (Q) (F0 m 714 ls [])) (R) ?_ ?_ 0 (by omega) ls (by first | exact lv_sub hl [0, 1, 3, 2, 8, 9, 4, 10, 11, 12, 13, 14, 15, 16, 17, 18, 19, 20, 21] rfl | (simpa using lv_sub hl [0, 1, 3, 2, 8, 9, 4, 10, 11, 12, 13, 14, 15, 16, 17, 18, 19, 20, 21] rfl))
          · intro ls hl
            refine lv_iload hx hb dL_law_714 (lv_at hl 0 rfl) ?_
            refine lv_iload hx hb dL_law_716 (lv_at hl 12 rfl) ?_
            refine jge (i := R) (j := R) (tgt := 738) hC dL_law_718 (by decide) rfl rfl (by omega) (by omega) (fun c5 => ?_) (fun c5 => ?_)
            · refine lv_iload hx hb dL_law_738 (lv_at hl 3 rfl) ?_
              refine lv_iload hx hb dL_law_740 (lv_at hl 4 rfl) ?_
              refine lv_icmp_ne (tgt := 766) hx hb dL_law_742 (by decide) (fun c6 => ?_) (fun c6 => ?_)
              · exfalso; exact c6 hJ.gd
              · refine lv_iload hx hb dL_law_745 (lv_at hl 1 rfl) ?_
                refine lv_iload hx hb dL_law_747 (lv_at hl 6 rfl) ?_
                refine lv_iload hx hb dL_law_749 (lv_at hl 5 rfl) ?_
                refine lv_iadd hx hb dL_law_751 ?_
                refine lv_icmp_ne (tgt := 766) hx hb dL_law_752 (by decide) (fun c7 => ?_) (fun c7 => ?_)
                · exfalso; exact c7 hJ.gp
                · refine lv_aload_n hx hb dL_law_755 rfl (lv_at hl 8 rfl) ?_
                  refine kL_X0_second hC (c_X0_second l D cI cQ a (bPa S T R 1) (BI_pa hJ.1 1)) hB rfl ⟨rfl, rfl⟩ ⟨Nat.le_of_ble_eq_true rfl, Nat.le_of_ble_eq_true rfl⟩ ⟨by omega, by omega⟩ hl.1 rfl (Nat.le_of_ble_eq_true rfl) dL_law_756 ?_
                  refine lv_iload hx hb dL_law_759 (lv_at hl 2 rfl) ?_
                  refine lv_iconst (v := 1) hx hb dL_law_761 (by decide) ?_
                  refine lv_iadd hx hb dL_law_762 ?_
                  refine lv_icmp_eq (tgt := 768) hx hb dL_law_763 (by decide) (fun c8 => ?_) (fun c8 => ?_)
                  · refine W.widen (k := cells + 1) (n := slots + 8) (by omega) (by omega) ?_
                    exact K H locs ls ⟨hB, hN, F, hV, hF⟩ hS (lv_sub hl [7, 8, 9, 10, 11, 12, 13, 14, 15, 16, 17, 18] rfl)
                  · exfalso; exact c8 hJ.gs
            · exfalso; omega
          · intro r hr rh ls hl
            refine lv_iload hx hb dL_law_714 (lv_at hl 0 rfl) ?_
            refine lv_iload hx hb dL_law_716 (lv_at hl 12 rfl) ?_
            refine jge (i := r) (j := R) (tgt := 738) hC dL_law_718 (by decide) rfl rfl (by omega) (by omega) (fun c9 => ?_) (fun c9 => ?_)
            · exfalso; omega
            · refine lv_iload hx hb dL_law_721 (lv_at hl 1 rfl) ?_
              refine lv_aload_n hx hb dL_law_723 rfl (lv_at hl 8 rfl) ?_
              refine lv_iload hx hb dL_law_724 (lv_at hl 0 rfl) ?_
              refine kL_X0_purseOf hC (c_X0_purseOf l D cI cQ a (bPa S T R 1) (BI_pa hJ.1 1) (r := r) (by omega)) hB rfl ⟨rfl, rfl⟩ ⟨Nat.le_of_ble_eq_true rfl, Nat.le_of_ble_eq_true rfl⟩ ⟨by omega, by omega⟩ hl.1 rfl (Nat.le_of_ble_eq_true rfl) dL_law_726 ?_
              refine lv_iadd hx hb dL_law_729 ?_
              refine lv_istore (lv' := [(21, .int ((sma 0 (bPa S T R 1 5) r) + ((bPa S T R 1) 5 r))), (22, .int (nI r)), (19, .int (S 6 0)), (20, .int (bPc S T R 1)), (15, .int (dueS S T)), (16, .int (brg S R T)), (17, .int (sma 0 (S 5) R)), (0, .ref (bs)), (1, .ref (a 13)), (2, .ref (b 0)), (3, .int (nI tm)), (5, .int (nI T)), (6, .int (nI R)), (7, .ref (x 0)), (8, .ref (x 1)), (9, .ref (x 2)), (10, .ref (x 3)), (11, .ref (x 4)), (12, .ref (x 5))]) hx hb dL_law_730 hl (by decide) rfl (fun ls hl => ?_)
              refine lv_iinc (v := nI (r + 1)) (lv' := [(22, .int (nI (r + 1))), (21, .int ((sma 0 (bPa S T R 1 5) r) + ((bPa S T R 1) 5 r))), (19, .int (S 6 0)), (20, .int (bPc S T R 1)), (15, .int (dueS S T)), (16, .int (brg S R T)), (17, .int (sma 0 (S 5) R)), (0, .ref (bs)), (1, .ref (a 13)), (2, .ref (b 0)), (3, .int (nI tm)), (5, .int (nI T)), (6, .int (nI R)), (7, .ref (x 0)), (8, .ref (x 1)), (9, .ref (x 2)), (10, .ref (x 3)), (11, .ref (x 4)), (12, .ref (x 5))]) hx hb dL_law_732 hl (k := 1) rfl (ninc r) (by decide) rfl (fun ls hl => ?_)
              refine lv_goto (tgt := 714) hx hb dL_law_735 (by decide) ?_
              exact rh ls (lv_sub hl [0, 1, 2, 3, 4, 5, 6, 7, 8, 9, 10, 11, 12, 13, 14, 15, 16, 17, 18] rfl)
        · exfalso; exact c4 (bBu_lt hT8)

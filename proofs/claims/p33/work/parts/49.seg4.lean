set_option maxHeartbeats 8000000 in
set_option maxRecDepth 100000 in
theorem law_s4 {p : Program} {l : Launch} {e : Env} {s : State} {m : MethodId} {args : Array Value} {below : List Frame} {meth : Method} {c : Code} {Q : State → Prop} {bs tm cells slots : Nat} {D : va_G} {cI cQ : ClassId} {a b x : Nat → Nat} {S N : bS} {T R sec : Nat} {w9 p9 bt9 u9 q9 : Nat → Nat} (hC : CallFix p m c cL_law 25 s args wsL_law RL) (hJ : Jc S N T R sec w9 p9 bt9 u9 q9) (hd : Dsx a b x T R s.heap.size) (hc1 : cells + 0 ≤ room_1.cells) (hc2 : slots + 0 ≤ room_1.slots)  {H : Heap} {locs : List Loc} {ls : Array Slot} (hW : L1 D cI cQ a b x (bPa S T R 1) (nGo N (sPr N) R T) T R (fun F => FP S R F T) s H) (hS : va_S (fun q => s.heap.size ≤ q) s.heap H locs) (hl : lv_has ls 25 [(0, .ref (bs)), (1, .ref (a 13)), (2, .ref (b 0)), (3, .int (nI tm)), (5, .int (nI T)), (6, .int (nI R)), (7, .ref (x 0)), (8, .ref (x 1)), (9, .ref (x 2)), (10, .ref (x 3)), (11, .ref (x 4)), (12, .ref (x 5))]) (K : ∀ (H : Heap) (locs : List Loc) (ls : Array Slot), L1 D cI cQ a b x (bPa S T R 1) (nGo N (sPr N) R T) T R (fun F => FP S R F T) s H → va_S (fun q => s.heap.size ≤ q) s.heap H locs → lv_has ls 25 [(0, .ref (bs)), (1, .ref (a 13)), (2, .ref (b 0)), (3, .int (nI tm)), (5, .int (nI T)), (6, .int (nI R)), (7, .ref (x 0)), (8, .ref (x 1)), (9, .ref (x 2)), (10, .ref (x 3)), (11, .ref (x 4)), (12, .ref (x 5))] → W p l e room_1 s m args below meth c H locs cells slots Q (F0 m 931 ls [])) : W p l e room_1 s m args below meth c H locs cells slots Q (F0 m 768 ls []) := by
  have hx := hC.1
  have hb := hC.2.1
  have hT8 := hJ.T8
  have hR6 := hJ.R6
  have hP := hJ.hP
  obtain ⟨hds, hax, hbx, haA, hbA, hxA⟩ := hd
  have hAB : ∀ q, inB a q → (fun q => s.heap.size ≤ q) q := fun q ⟨k, hk, e⟩ => by rw [e]; exact haA k hk
  have hAN : ∀ q, inG (10 + T) b q → (fun q => s.heap.size ≤ q) q := fun q ⟨k, hk, e⟩ => by rw [e]; exact hbA k hk
  have hAX : ∀ q, inG (6 + R) x q → (fun q => s.heap.size ≤ q) q := fun q ⟨k, hk, e⟩ => by rw [e]; exact hxA k hk
  obtain ⟨hB, hN, F, hV, hF⟩ := hW
  refine lv_iconst (v := 0) hx hb dL_law_768 (by decide) ?_
  refine lv_istore (lv' := [(22, .int (0)), (0, .ref (bs)), (1, .ref (a 13)), (2, .ref (b 0)), (3, .int (nI tm)), (5, .int (nI T)), (6, .int (nI R)), (7, .ref (x 0)), (8, .ref (x 1)), (9, .ref (x 2)), (10, .ref (x 3)), (11, .ref (x 4)), (12, .ref (x 5))]) hx hb dL_law_769 hl (by decide) rfl (fun ls hl => ?_)
  refine loopU (P := fun i => ∀ ls : Array Slot, lv_has ls 25 [(22, .int (nI i)), (0, .ref (bs)), (1, .ref (a 13)), (2, .ref (b 0)), (3, .int (nI tm)), (5, .int (nI T)), (6, .int (nI R)), (7, .ref (x 0)), (8, .ref (x 1)), (9, .ref (x 2)), (10, .ref (x 3)), (11, .ref (x 4)), (12, .ref (x 5))] → W p l e room_1 s m args below meth c H locs cells slots (Q) (F0 m 771 ls [])) (T) ?_ ?_ 0 (by omega) ls (by first | exact lv_sub hl [0, 1, 2, 3, 4, 5, 6, 7, 8, 9, 10, 11, 12] rfl | (simpa using lv_sub hl [0, 1, 2, 3, 4, 5, 6, 7, 8, 9, 10, 11, 12] rfl))
  · intro ls hl
    refine lv_iload hx hb dL_law_771 (lv_at hl 0 rfl) ?_
    refine lv_iload hx hb dL_law_773 (lv_at hl 5 rfl) ?_
    refine jge (i := T) (j := T) (tgt := 931) hC dL_law_775 (by decide) rfl rfl (by omega) (by omega) (fun c1 => ?_) (fun c1 => ?_)
    · exact K H locs ls ⟨hB, hN, F, hV, hF⟩ hS (lv_sub hl [1, 2, 3, 4, 5, 6, 7, 8, 9, 10, 11, 12] rfl)
    · exfalso; omega
  · intro i hi ih ls hl
    refine lv_iload hx hb dL_law_771 (lv_at hl 0 rfl) ?_
    refine lv_iload hx hb dL_law_773 (lv_at hl 5 rfl) ?_
    refine jge (i := i) (j := T) (tgt := 931) hC dL_law_775 (by decide) rfl rfl (by omega) (by omega) (fun c2 => ?_) (fun c2 => ?_)
    · exfalso; omega
    · refine lv_aload hx hb dL_law_778 (lv_at hl 9 rfl) ?_
      refine lv_iload hx hb dL_law_780 (lv_at hl 0 rfl) ?_
      refine lX_a (v := S 3 i) 2 (i) hC hV (by omega) (by omega) rfl (by omega) ((hF i (by omega)).1.2.2.1) dL_law_782 ?_
      refine lv_iconst (v := 1) hx hb dL_law_783 (by decide) ?_
      refine lv_icmp_ne (tgt := 791) hx hb dL_law_784 (by decide) (fun c3 => ?_) (fun c3 => ?_)
      · refine lv_iconst (v := 0) hx hb dL_law_791 (by decide) ?_
        refine lv_istore (lv' := [(23, .int (0)), (22, .int (nI i)), (0, .ref (bs)), (1, .ref (a 13)), (2, .ref (b 0)), (3, .int (nI tm)), (5, .int (nI T)), (6, .int (nI R)), (7, .ref (x 0)), (8, .ref (x 1)), (9, .ref (x 2)), (10, .ref (x 3)), (11, .ref (x 4)), (12, .ref (x 5))]) hx hb dL_law_792 hl (by decide) rfl (fun ls hl => ?_)
        refine lv_aload_n hx hb dL_law_794 rfl (lv_at hl 3 rfl) ?_
        refine lv_iload hx hb dL_law_795 (lv_at hl 1 rfl) ?_
        refine kL_X0_silenceOf hC (c_X0_silenceOf l D cI cQ a (bPa S T R 1) (BI_pa hJ.1 1) (t := i) (by omega)) hB rfl ⟨rfl, rfl⟩ ⟨Nat.le_of_ble_eq_true rfl, Nat.le_of_ble_eq_true rfl⟩ ⟨by omega, by omega⟩ hl.1 rfl (Nat.le_of_ble_eq_true rfl) dL_law_797 ?_
        refine lv_iload hx hb dL_law_800 (lv_at hl 0 rfl) ?_
        refine lv_if_eq (tgt := 809) hx hb dL_law_802 (by decide) (fun c4 => ?_) (fun c4 => ?_)
        · refine lv_aload hx hb dL_law_809 (lv_at hl 8 rfl) ?_
          refine lv_iload hx hb dL_law_811 (lv_at hl 1 rfl) ?_
          refine lX_a (v := S 2 i) 0 (i) hC hV (by omega) (by omega) rfl (by omega) ((hF i (by omega)).1.1) dL_law_813 ?_
          refine lv_iconst (v := 1) hx hb dL_law_814 (by decide) ?_
          refine lv_iadd hx hb dL_law_815 ?_
          refine lv_icmp_ne (tgt := 877) hx hb dL_law_816 (by decide) (fun c5 => ?_) (fun c5 => ?_)
          · exfalso; exact c5 (by rw [hJ.g2 hi, if_neg c3])
          · refine lv_aload_n hx hb dL_law_819 rfl (lv_at hl 3 rfl) ?_
            refine lv_iload hx hb dL_law_820 (lv_at hl 1 rfl) ?_
            refine kL_X0_strokesOf hC (c_X0_strokesOf l D cI cQ a (bPa S T R 1) (BI_pa hJ.1 1) (t := i) (by omega)) hB rfl ⟨rfl, rfl⟩ ⟨Nat.le_of_ble_eq_true rfl, Nat.le_of_ble_eq_true rfl⟩ ⟨by omega, by omega⟩ hl.1 rfl (Nat.le_of_ble_eq_true rfl) dL_law_822 ?_
            refine lv_aload hx hb dL_law_825 (lv_at hl 11 rfl) ?_
            refine lv_iload hx hb dL_law_827 (lv_at hl 1 rfl) ?_
            refine lX_a (v := S 4 i) 3 (i) hC hV (by omega) (by omega) rfl (by omega) ((hF i (by omega)).1.2.2.2.1) dL_law_829 ?_
            refine lv_iload hx hb dL_law_830 (lv_at hl 0 rfl) ?_
            refine lv_if_eq (tgt := 839) hx hb dL_law_832 (by decide) (fun c6 => ?_) (fun c6 => ?_)
            · refine lv_iconst (v := 0) hx hb dL_law_839 (by decide) ?_
              refine lv_iadd hx hb dL_law_840 ?_
              refine lv_icmp_ne (tgt := 877) hx hb dL_law_841 (by decide) (fun c7 => ?_) (fun c7 => ?_)
              · exfalso; exact c7 (by rw [hJ.g4 hi, if_neg c3])
              · refine lv_aload_n hx hb dL_law_844 rfl (lv_at hl 3 rfl) ?_
                refine lv_iload hx hb dL_law_845 (lv_at hl 1 rfl) ?_
                refine kL_X0_secondsUntilStroke hC (c_X0_secondsUntilStroke l D cI cQ a (bPa S T R 1) (BI_pa hJ.1 1) (t := i) (by omega)) hB rfl ⟨rfl, rfl⟩ ⟨Nat.le_of_ble_eq_true rfl, Nat.le_of_ble_eq_true rfl⟩ ⟨by omega, by omega⟩ hl.1 rfl (Nat.le_of_ble_eq_true rfl) dL_law_847 ?_
                refine lv_iload hx hb dL_law_850 (lv_at hl 0 rfl) ?_
                refine lv_if_eq (tgt := 867) hx hb dL_law_852 (by decide) (fun c8 => ?_) (fun c8 => ?_)
                · refine lv_aload hx hb dL_law_867 (lv_at hl 10 rfl) ?_
                  refine lv_iload hx hb dL_law_869 (lv_at hl 1 rfl) ?_
                  refine lX_a (v := S 3 i) 2 (i) hC hV (by omega) (by omega) rfl (by omega) ((hF i (by omega)).1.2.2.1) dL_law_871 ?_
                  refine lv_iconst (v := 1) hx hb dL_law_872 (by decide) ?_
                  refine lv_isub hx hb dL_law_873 ?_
                  refine lv_icmp_eq (tgt := 879) hx hb dL_law_874 (by decide) (fun c9 => ?_) (fun c9 => ?_)
                  · refine lv_iconst (v := 0) hx hb dL_law_879 (by decide) ?_
                    refine lv_istore (lv' := [(24, .int (0)), (23, .int (0)), (22, .int (nI i)), (0, .ref (bs)), (1, .ref (a 13)), (2, .ref (b 0)), (3, .int (nI tm)), (5, .int (nI T)), (6, .int (nI R)), (7, .ref (x 0)), (8, .ref (x 1)), (9, .ref (x 2)), (10, .ref (x 3)), (11, .ref (x 4)), (12, .ref (x 5))]) hx hb dL_law_880 hl (by decide) rfl (fun ls hl => ?_)
                    refine loopU (P := fun r => ∀ ls : Array Slot, lv_has ls 25 [(24, .int (nI r)), (22, .int (nI i)), (23, .int (0)), (0, .ref (bs)), (1, .ref (a 13)), (2, .ref (b 0)), (3, .int (nI tm)), (5, .int (nI T)), (6, .int (nI R)), (7, .ref (x 0)), (8, .ref (x 1)), (9, .ref (x 2)), (10, .ref (x 3)), (11, .ref (x 4)), (12, .ref (x 5))] → W p l e room_1 s m args below meth c H locs cells slots (Q) (F0 m 882 ls [])) (R) ?_ ?_ 0 (by omega) ls (by first | exact lv_sub hl [0, 2, 1, 3, 4, 5, 6, 7, 8, 9, 10, 11, 12, 13, 14] rfl | (simpa using lv_sub hl [0, 2, 1, 3, 4, 5, 6, 7, 8, 9, 10, 11, 12, 13, 14] rfl))
                    · intro ls hl
                      refine lv_iload hx hb dL_law_882 (lv_at hl 0 rfl) ?_
                      refine lv_iload hx hb dL_law_884 (lv_at hl 8 rfl) ?_
                      refine jge (i := R) (j := R) (tgt := 925) hC dL_law_886 (by decide) rfl rfl (by omega) (by omega) (fun c10 => ?_) (fun c10 => ?_)
                      · refine lv_iinc (v := nI (i + 1)) (lv' := [(22, .int (nI (i + 1))), (24, .int (nI R)), (23, .int (0)), (0, .ref (bs)), (1, .ref (a 13)), (2, .ref (b 0)), (3, .int (nI tm)), (5, .int (nI T)), (6, .int (nI R)), (7, .ref (x 0)), (8, .ref (x 1)), (9, .ref (x 2)), (10, .ref (x 3)), (11, .ref (x 4)), (12, .ref (x 5))]) hx hb dL_law_925 hl (k := 1) rfl (ninc i) (by decide) rfl (fun ls hl => ?_)
                        refine lv_goto (tgt := 771) hx hb dL_law_928 (by decide) ?_
                        exact ih ls (lv_sub hl [0, 3, 4, 5, 6, 7, 8, 9, 10, 11, 12, 13, 14] rfl)
                      · exfalso; omega
                    · intro r hr rh ls hl
                      refine lv_iload hx hb dL_law_882 (lv_at hl 0 rfl) ?_
                      refine lv_iload hx hb dL_law_884 (lv_at hl 8 rfl) ?_
                      refine jge (i := r) (j := R) (tgt := 925) hC dL_law_886 (by decide) rfl rfl (by omega) (by omega) (fun c11 => ?_) (fun c11 => ?_)
                      · exfalso; omega
                      · refine lv_aload_n hx hb dL_law_889 rfl (lv_at hl 4 rfl) ?_
                        refine lv_iload hx hb dL_law_890 (lv_at hl 0 rfl) ?_
                        refine lv_iload hx hb dL_law_892 (lv_at hl 1 rfl) ?_
                        refine kL_X0_holds hC (c_X0_holds l D cI cQ a (bPa S T R 1) (BI_pa hJ.1 1) (r := r) (t := i) (by omega) (by omega)) hB rfl ⟨rfl, rfl⟩ ⟨Nat.le_of_ble_eq_true rfl, Nat.le_of_ble_eq_true rfl⟩ ⟨by omega, by omega⟩ hl.1 rfl (Nat.le_of_ble_eq_true rfl) dL_law_894 ?_
                        refine lv_iload hx hb dL_law_897 (lv_at hl 2 rfl) ?_
                        refine lv_if_eq (tgt := 906) hx hb dL_law_899 (by decide) (fun c12 => ?_) (fun c12 => ?_)
                        · refine lv_aload hx hb dL_law_906 (lv_at hl 14 rfl) ?_
                          refine lv_iload hx hb dL_law_908 (lv_at hl 0 rfl) ?_
                          refine lX_r (r) hC hV (by omega) rfl (by omega) dL_law_910 ?_
                          refine lv_iload hx hb dL_law_911 (lv_at hl 1 rfl) ?_
                          refine lX_h (v := S (7 + r) i) (r) (i) hC hV (by omega) (by omega) rfl (by omega) ((hF i (by omega)).2 r (by omega)) dL_law_913 ?_
                          refine lv_icmp_eq (tgt := 919) hx hb dL_law_914 (by decide) (fun c13 => ?_) (fun c13 => ?_)
                          · refine lv_iinc (v := nI (r + 1)) (lv' := [(24, .int (nI (r + 1))), (22, .int (nI i)), (23, .int (0)), (0, .ref (bs)), (1, .ref (a 13)), (2, .ref (b 0)), (3, .int (nI tm)), (5, .int (nI T)), (6, .int (nI R)), (7, .ref (x 0)), (8, .ref (x 1)), (9, .ref (x 2)), (10, .ref (x 3)), (11, .ref (x 4)), (12, .ref (x 5))]) hx hb dL_law_919 hl (k := 0) rfl (ninc r) (by decide) rfl (fun ls hl => ?_)
                            refine lv_goto (tgt := 882) hx hb dL_law_922 (by decide) ?_
                            exact rh ls (lv_sub hl [0, 1, 2, 3, 4, 5, 6, 7, 8, 9, 10, 11, 12, 13, 14] rfl)
                          · exfalso; exact c13 (by rw [hJ.gh hr hi, if_neg c3])
                        · exfalso; revert c12; decide
                  · exfalso; exact c9 (by rw [hJ.g3 hi, if_neg c3])
                · exfalso; revert c8; decide
            · exfalso; revert c6; decide
        · exfalso; revert c4; decide
      · refine lv_iconst (v := 1) hx hb dL_law_787 (by decide) ?_
        refine lv_goto (tgt := 792) hx hb dL_law_788 (by decide) ?_
        refine lv_istore (lv' := [(23, .int (1)), (22, .int (nI i)), (0, .ref (bs)), (1, .ref (a 13)), (2, .ref (b 0)), (3, .int (nI tm)), (5, .int (nI T)), (6, .int (nI R)), (7, .ref (x 0)), (8, .ref (x 1)), (9, .ref (x 2)), (10, .ref (x 3)), (11, .ref (x 4)), (12, .ref (x 5))]) hx hb dL_law_792 hl (by decide) rfl (fun ls hl => ?_)
        refine lv_aload_n hx hb dL_law_794 rfl (lv_at hl 3 rfl) ?_
        refine lv_iload hx hb dL_law_795 (lv_at hl 1 rfl) ?_
        refine kL_X0_silenceOf hC (c_X0_silenceOf l D cI cQ a (bPa S T R 1) (BI_pa hJ.1 1) (t := i) (by omega)) hB rfl ⟨rfl, rfl⟩ ⟨Nat.le_of_ble_eq_true rfl, Nat.le_of_ble_eq_true rfl⟩ ⟨by omega, by omega⟩ hl.1 rfl (Nat.le_of_ble_eq_true rfl) dL_law_797 ?_
        refine lv_iload hx hb dL_law_800 (lv_at hl 0 rfl) ?_
        refine lv_if_eq (tgt := 809) hx hb dL_law_802 (by decide) (fun c14 => ?_) (fun c14 => ?_)
        · exfalso; revert c14; decide
        · refine lv_iconst (v := 0) hx hb dL_law_805 (by decide) ?_
          refine lv_goto (tgt := 816) hx hb dL_law_806 (by decide) ?_
          refine lv_icmp_ne (tgt := 877) hx hb dL_law_816 (by decide) (fun c15 => ?_) (fun c15 => ?_)
          · exfalso; exact c15 (by rw [hJ.g2 hi, if_pos c3])
          · refine lv_aload_n hx hb dL_law_819 rfl (lv_at hl 3 rfl) ?_
            refine lv_iload hx hb dL_law_820 (lv_at hl 1 rfl) ?_
            refine kL_X0_strokesOf hC (c_X0_strokesOf l D cI cQ a (bPa S T R 1) (BI_pa hJ.1 1) (t := i) (by omega)) hB rfl ⟨rfl, rfl⟩ ⟨Nat.le_of_ble_eq_true rfl, Nat.le_of_ble_eq_true rfl⟩ ⟨by omega, by omega⟩ hl.1 rfl (Nat.le_of_ble_eq_true rfl) dL_law_822 ?_
            refine lv_aload hx hb dL_law_825 (lv_at hl 11 rfl) ?_
            refine lv_iload hx hb dL_law_827 (lv_at hl 1 rfl) ?_
            refine lX_a (v := S 4 i) 3 (i) hC hV (by omega) (by omega) rfl (by omega) ((hF i (by omega)).1.2.2.2.1) dL_law_829 ?_
            refine lv_iload hx hb dL_law_830 (lv_at hl 0 rfl) ?_
            refine lv_if_eq (tgt := 839) hx hb dL_law_832 (by decide) (fun c16 => ?_) (fun c16 => ?_)
            · exfalso; revert c16; decide
            · refine lv_iconst (v := 1) hx hb dL_law_835 (by decide) ?_
              refine lv_goto (tgt := 840) hx hb dL_law_836 (by decide) ?_
              refine lv_iadd hx hb dL_law_840 ?_
              refine lv_icmp_ne (tgt := 877) hx hb dL_law_841 (by decide) (fun c17 => ?_) (fun c17 => ?_)
              · exfalso; exact c17 (by rw [hJ.g4 hi, if_pos c3])
              · refine lv_aload_n hx hb dL_law_844 rfl (lv_at hl 3 rfl) ?_
                refine lv_iload hx hb dL_law_845 (lv_at hl 1 rfl) ?_
                refine kL_X0_secondsUntilStroke hC (c_X0_secondsUntilStroke l D cI cQ a (bPa S T R 1) (BI_pa hJ.1 1) (t := i) (by omega)) hB rfl ⟨rfl, rfl⟩ ⟨Nat.le_of_ble_eq_true rfl, Nat.le_of_ble_eq_true rfl⟩ ⟨by omega, by omega⟩ hl.1 rfl (Nat.le_of_ble_eq_true rfl) dL_law_847 ?_
                refine lv_iload hx hb dL_law_850 (lv_at hl 0 rfl) ?_
                refine lv_if_eq (tgt := 867) hx hb dL_law_852 (by decide) (fun c18 => ?_) (fun c18 => ?_)
                · exfalso; revert c18; decide
                · refine lv_aload_n hx hb dL_law_855 rfl (lv_at hl 4 rfl) ?_
                  refine gL_towers hC hN dL_law_856 ?_
                  refine lv_iload hx hb dL_law_859 (lv_at hl 1 rfl) ?_
                  refine lS_tw (i) hC hN rfl (by omega) (by omega) dL_law_861 ?_
                  refine lv_iconst (v := 1) hx hb dL_law_862 (by decide) ?_
                  refine lS_row (i) (1) hC hN (by omega) rfl (by omega) rfl dL_law_863 ?_
                  refine lv_goto (tgt := 874) hx hb dL_law_864 (by decide) ?_
                  refine lv_icmp_eq (tgt := 879) hx hb dL_law_874 (by decide) (fun c19 => ?_) (fun c19 => ?_)
                  · refine lv_iconst (v := 0) hx hb dL_law_879 (by decide) ?_
                    refine lv_istore (lv' := [(24, .int (0)), (23, .int (1)), (22, .int (nI i)), (0, .ref (bs)), (1, .ref (a 13)), (2, .ref (b 0)), (3, .int (nI tm)), (5, .int (nI T)), (6, .int (nI R)), (7, .ref (x 0)), (8, .ref (x 1)), (9, .ref (x 2)), (10, .ref (x 3)), (11, .ref (x 4)), (12, .ref (x 5))]) hx hb dL_law_880 hl (by decide) rfl (fun ls hl => ?_)
                    refine loopU (P := fun r => ∀ ls : Array Slot, lv_has ls 25 [(24, .int (nI r)), (22, .int (nI i)), (23, .int (1)), (0, .ref (bs)), (1, .ref (a 13)), (2, .ref (b 0)), (3, .int (nI tm)), (5, .int (nI T)), (6, .int (nI R)), (7, .ref (x 0)), (8, .ref (x 1)), (9, .ref (x 2)), (10, .ref (x 3)), (11, .ref (x 4)), (12, .ref (x 5))] → W p l e room_1 s m args below meth c H locs cells slots (Q) (F0 m 882 ls [])) (R) ?_ ?_ 0 (by omega) ls (by first | exact lv_sub hl [0, 2, 1, 3, 4, 5, 6, 7, 8, 9, 10, 11, 12, 13, 14] rfl | (simpa using lv_sub hl [0, 2, 1, 3, 4, 5, 6, 7, 8, 9, 10, 11, 12, 13, 14] rfl))
                    · intro ls hl
                      refine lv_iload hx hb dL_law_882 (lv_at hl 0 rfl) ?_
                      refine lv_iload hx hb dL_law_884 (lv_at hl 8 rfl) ?_
                      refine jge (i := R) (j := R) (tgt := 925) hC dL_law_886 (by decide) rfl rfl (by omega) (by omega) (fun c20 => ?_) (fun c20 => ?_)
                      · refine lv_iinc (v := nI (i + 1)) (lv' := [(22, .int (nI (i + 1))), (24, .int (nI R)), (23, .int (1)), (0, .ref (bs)), (1, .ref (a 13)), (2, .ref (b 0)), (3, .int (nI tm)), (5, .int (nI T)), (6, .int (nI R)), (7, .ref (x 0)), (8, .ref (x 1)), (9, .ref (x 2)), (10, .ref (x 3)), (11, .ref (x 4)), (12, .ref (x 5))]) hx hb dL_law_925 hl (k := 1) rfl (ninc i) (by decide) rfl (fun ls hl => ?_)
                        refine lv_goto (tgt := 771) hx hb dL_law_928 (by decide) ?_
                        exact ih ls (lv_sub hl [0, 3, 4, 5, 6, 7, 8, 9, 10, 11, 12, 13, 14] rfl)
                      · exfalso; omega
                    · intro r hr rh ls hl
                      refine lv_iload hx hb dL_law_882 (lv_at hl 0 rfl) ?_
                      refine lv_iload hx hb dL_law_884 (lv_at hl 8 rfl) ?_
                      refine jge (i := r) (j := R) (tgt := 925) hC dL_law_886 (by decide) rfl rfl (by omega) (by omega) (fun c21 => ?_) (fun c21 => ?_)
                      · exfalso; omega
                      · refine lv_aload_n hx hb dL_law_889 rfl (lv_at hl 4 rfl) ?_
                        refine lv_iload hx hb dL_law_890 (lv_at hl 0 rfl) ?_
                        refine lv_iload hx hb dL_law_892 (lv_at hl 1 rfl) ?_
                        refine kL_X0_holds hC (c_X0_holds l D cI cQ a (bPa S T R 1) (BI_pa hJ.1 1) (r := r) (t := i) (by omega) (by omega)) hB rfl ⟨rfl, rfl⟩ ⟨Nat.le_of_ble_eq_true rfl, Nat.le_of_ble_eq_true rfl⟩ ⟨by omega, by omega⟩ hl.1 rfl (Nat.le_of_ble_eq_true rfl) dL_law_894 ?_
                        refine lv_iload hx hb dL_law_897 (lv_at hl 2 rfl) ?_
                        refine lv_if_eq (tgt := 906) hx hb dL_law_899 (by decide) (fun c22 => ?_) (fun c22 => ?_)
                        · exfalso; revert c22; decide
                        · refine lv_iconst (v := 0) hx hb dL_law_902 (by decide) ?_
                          refine lv_goto (tgt := 914) hx hb dL_law_903 (by decide) ?_
                          refine lv_icmp_eq (tgt := 919) hx hb dL_law_914 (by decide) (fun c23 => ?_) (fun c23 => ?_)
                          · refine lv_iinc (v := nI (r + 1)) (lv' := [(24, .int (nI (r + 1))), (22, .int (nI i)), (23, .int (1)), (0, .ref (bs)), (1, .ref (a 13)), (2, .ref (b 0)), (3, .int (nI tm)), (5, .int (nI T)), (6, .int (nI R)), (7, .ref (x 0)), (8, .ref (x 1)), (9, .ref (x 2)), (10, .ref (x 3)), (11, .ref (x 4)), (12, .ref (x 5))]) hx hb dL_law_919 hl (k := 0) rfl (ninc r) (by decide) rfl (fun ls hl => ?_)
                            refine lv_goto (tgt := 882) hx hb dL_law_922 (by decide) ?_
                            exact rh ls (lv_sub hl [0, 1, 2, 3, 4, 5, 6, 7, 8, 9, 10, 11, 12, 13, 14] rfl)
                          · exfalso; exact c23 (by rw [hJ.gh hr hi, if_pos c3])
                  · exfalso; exact c19 (by rw [hJ.g3 hi, if_pos c3])

set_option maxHeartbeats 8000000 in
set_option maxRecDepth 100000 in
theorem law_s1 {p : Program} {l : Launch} {e : Env} {s : State} {m : MethodId} {args : Array Value} {below : List Frame} {meth : Method} {c : Code} {Q : State → Prop} {bs tm cells slots : Nat} {D : va_G} {cI cQ : ClassId} {a b x : Nat → Nat} {S N : bS} {T R sec : Nat} {w9 p9 bt9 u9 q9 : Nat → Nat} (hC : CallFix p m c cL_law 25 s args wsL_law RL) (hJ : Jc S N T R sec w9 p9 bt9 u9 q9) (hd : Dsx a b x T R s.heap.size) (hc1 : cells + 0 ≤ room_1.cells) (hc2 : slots + 0 ≤ room_1.slots)  {H : Heap} {locs : List Loc} {ls : Array Slot} (hW : L1 D cI cQ a b x S N T R (fun F => FP S R F 0) s H) (hS : va_S (fun q => s.heap.size ≤ q) s.heap H locs) (hl : lv_has ls 25 [(19, .int (nI 0)), (13, .int (dmx (bPr S R) 0)), (14, .int (smn (S 3) 0)), (15, .int (dueS S 0)), (16, .int (brg S R 0)), (17, .int (0)), (18, .int (0)), (0, .ref (bs)), (1, .ref (a 13)), (2, .ref (b 0)), (3, .int (nI tm)), (5, .int (nI T)), (6, .int (nI R)), (7, .ref (x 0)), (8, .ref (x 1)), (9, .ref (x 2)), (10, .ref (x 3)), (11, .ref (x 4)), (12, .ref (x 5))]) (K : ∀ (H : Heap) (locs : List Loc) (ls : Array Slot), L1 D cI cQ a b x S N T R (fun F => FP S R F T) s H → va_S (fun q => s.heap.size ≤ q) s.heap H locs → lv_has ls 25 [(19, .int (nI T)), (13, .int (dmx (bPr S R) T)), (14, .int (smn (S 3) T)), (15, .int (dueS S T)), (16, .int (brg S R T)), (17, .int (0)), (18, .int (0)), (0, .ref (bs)), (1, .ref (a 13)), (2, .ref (b 0)), (3, .int (nI tm)), (5, .int (nI T)), (6, .int (nI R)), (7, .ref (x 0)), (8, .ref (x 1)), (9, .ref (x 2)), (10, .ref (x 3)), (11, .ref (x 4)), (12, .ref (x 5))] → W p l e room_1 s m args below meth c H locs cells slots Q (F0 m 502 ls [])) : W p l e room_1 s m args below meth c H locs cells slots Q (F0 m 137 ls []) := by
  have hx := hC.1
  have hb := hC.2.1
  have hT8 := hJ.T8
  have hR6 := hJ.R6
  have hP := hJ.hP
  obtain ⟨hds, hax, hbx, haA, hbA, hxA⟩ := hd
  have hAB : ∀ q, inB a q → (fun q => s.heap.size ≤ q) q := fun q ⟨k, hk, e⟩ => by rw [e]; exact haA k hk
  have hAN : ∀ q, inG (10 + T) b q → (fun q => s.heap.size ≤ q) q := fun q ⟨k, hk, e⟩ => by rw [e]; exact hbA k hk
  have hAX : ∀ q, inG (6 + R) x q → (fun q => s.heap.size ≤ q) q := fun q ⟨k, hk, e⟩ => by rw [e]; exact hxA k hk
  refine loopU (P := fun i => ∀ (H : Heap) (locs : List Loc), L1 D cI cQ a b x S N T R (fun F => FP S R F i) s H → va_S (fun q => s.heap.size ≤ q) s.heap H locs → ∀ ls : Array Slot, lv_has ls 25 [(19, .int (nI i)), (13, .int (dmx (bPr S R) i)), (14, .int (smn (S 3) i)), (15, .int (dueS S i)), (16, .int (brg S R i)), (17, .int (0)), (18, .int (0)), (0, .ref (bs)), (1, .ref (a 13)), (2, .ref (b 0)), (3, .int (nI tm)), (5, .int (nI T)), (6, .int (nI R)), (7, .ref (x 0)), (8, .ref (x 1)), (9, .ref (x 2)), (10, .ref (x 3)), (11, .ref (x 4)), (12, .ref (x 5))] → W p l e room_1 s m args below meth c H locs cells slots (Q) (F0 m 137 ls [])) (T) ?_ ?_ 0 (by omega) H locs hW hS ls (by first | exact lv_sub hl [0, 1, 2, 3, 4, 5, 6, 7, 8, 9, 10, 11, 12, 13, 14, 15, 16, 17, 18] rfl | (simpa using lv_sub hl [0, 1, 2, 3, 4, 5, 6, 7, 8, 9, 10, 11, 12, 13, 14, 15, 16, 17, 18] rfl))
  · intro H locs hW hS ls hl
    obtain ⟨hB, hN, F, hV, hF⟩ := hW
    refine lv_iload hx hb dL_law_137 (lv_at hl 0 rfl) ?_
    refine lv_iload hx hb dL_law_139 (lv_at hl 11 rfl) ?_
    refine jge (i := T) (j := T) (tgt := 502) hC dL_law_141 (by decide) rfl rfl (by omega) (by omega) (fun c1 => ?_) (fun c1 => ?_)
    · exact K H locs ls ⟨hB, hN, F, hV, hF⟩ hS (lv_sub hl [0, 1, 2, 3, 4, 5, 6, 7, 8, 9, 10, 11, 12, 13, 14, 15, 16, 17, 18] rfl)
    · exfalso; omega
  · intro i hi ih H locs hW hS ls hl
    obtain ⟨hB, hN, F, hV, hF⟩ := hW
    refine lv_iload hx hb dL_law_137 (lv_at hl 0 rfl) ?_
    refine lv_iload hx hb dL_law_139 (lv_at hl 11 rfl) ?_
    refine jge (i := i) (j := T) (tgt := 502) hC dL_law_141 (by decide) rfl rfl (by omega) (by omega) (fun c2 => ?_) (fun c2 => ?_)
    · exfalso; omega
    · refine lv_aload hx hb dL_law_144 (lv_at hl 13 rfl) ?_
      refine lv_iload hx hb dL_law_146 (lv_at hl 0 rfl) ?_
      refine lv_aload_n hx hb dL_law_148 rfl (lv_at hl 8 rfl) ?_
      refine lv_iload hx hb dL_law_149 (lv_at hl 0 rfl) ?_
      refine kL_X0_silenceOf hC (c_X0_silenceOf l D cI cQ a S hJ.1 (t := i) (by omega)) hB rfl ⟨rfl, rfl⟩ ⟨Nat.le_of_ble_eq_true rfl, Nat.le_of_ble_eq_true rfl⟩ ⟨by omega, by omega⟩ hl.1 rfl (Nat.le_of_ble_eq_true rfl) dL_law_151 ?_
      refine sX_a 0 (i) hC hV (by omega) (by omega) rfl (by omega) hS hAX dL_law_154 (fun H locs hV hS hz hf => ?_)
      have hB := hB.kept (fun k hk => hf _ (hax k (0) hk (by omega)))
      have hN := hN.kept (fun k hk => hf _ (hbx k (0) hk (by omega)))
      refine lv_aload hx hb dL_law_155 (lv_at hl 14 rfl) ?_
      refine lv_iload hx hb dL_law_157 (lv_at hl 0 rfl) ?_
      refine lv_aload_n hx hb dL_law_159 rfl (lv_at hl 8 rfl) ?_
      refine lv_iload hx hb dL_law_160 (lv_at hl 0 rfl) ?_
      refine kL_X0_priceOf hC (c_X0_priceOf l D cI cQ a S hJ.1 (t := i) (by omega)) hB rfl ⟨rfl, rfl⟩ ⟨Nat.le_of_ble_eq_true rfl, Nat.le_of_ble_eq_true rfl⟩ ⟨by omega, by omega⟩ hl.1 rfl (Nat.le_of_ble_eq_true rfl) dL_law_162 ?_
      refine sX_a 1 (i) hC hV (by omega) (by omega) rfl (by omega) hS hAX dL_law_165 (fun H locs hV hS hz hf => ?_)
      have hB := hB.kept (fun k hk => hf _ (hax k (1) hk (by omega)))
      have hN := hN.kept (fun k hk => hf _ (hbx k (1) hk (by omega)))
      refine lv_aload hx hb dL_law_166 (lv_at hl 15 rfl) ?_
      refine lv_iload hx hb dL_law_168 (lv_at hl 0 rfl) ?_
      refine lv_aload_n hx hb dL_law_170 rfl (lv_at hl 8 rfl) ?_
      refine lv_iload hx hb dL_law_171 (lv_at hl 0 rfl) ?_
      refine kL_X0_secondsUntilStroke hC (c_X0_secondsUntilStroke l D cI cQ a S hJ.1 (t := i) (by omega)) hB rfl ⟨rfl, rfl⟩ ⟨Nat.le_of_ble_eq_true rfl, Nat.le_of_ble_eq_true rfl⟩ ⟨by omega, by omega⟩ hl.1 rfl (Nat.le_of_ble_eq_true rfl) dL_law_173 ?_
      refine sX_a 2 (i) hC hV (by omega) (by omega) rfl (by omega) hS hAX dL_law_176 (fun H locs hV hS hz hf => ?_)
      have hB := hB.kept (fun k hk => hf _ (hax k (2) hk (by omega)))
      have hN := hN.kept (fun k hk => hf _ (hbx k (2) hk (by omega)))
      refine lv_aload hx hb dL_law_177 (lv_at hl 16 rfl) ?_
      refine lv_iload hx hb dL_law_179 (lv_at hl 0 rfl) ?_
      refine lv_aload_n hx hb dL_law_181 rfl (lv_at hl 8 rfl) ?_
      refine lv_iload hx hb dL_law_182 (lv_at hl 0 rfl) ?_
      refine kL_X0_strokesOf hC (c_X0_strokesOf l D cI cQ a S hJ.1 (t := i) (by omega)) hB rfl ⟨rfl, rfl⟩ ⟨Nat.le_of_ble_eq_true rfl, Nat.le_of_ble_eq_true rfl⟩ ⟨by omega, by omega⟩ hl.1 rfl (Nat.le_of_ble_eq_true rfl) dL_law_184 ?_
      refine sX_a 3 (i) hC hV (by omega) (by omega) rfl (by omega) hS hAX dL_law_187 (fun H locs hV hS hz hf => ?_)
      have hB := hB.kept (fun k hk => hf _ (hax k (3) hk (by omega)))
      have hN := hN.kept (fun k hk => hf _ (hbx k (3) hk (by omega)))
      refine lv_aload hx hb dL_law_188 (lv_at hl 17 rfl) ?_
      refine lv_iload hx hb dL_law_190 (lv_at hl 0 rfl) ?_
      refine lv_aload_n hx hb dL_law_192 rfl (lv_at hl 8 rfl) ?_
      refine lv_iload hx hb dL_law_193 (lv_at hl 0 rfl) ?_
      refine kL_X0_openSeconds hC (c_X0_openSeconds l D cI cQ a S hJ.1 (t := i) (by omega)) hB rfl ⟨rfl, rfl⟩ ⟨Nat.le_of_ble_eq_true rfl, Nat.le_of_ble_eq_true rfl⟩ ⟨by omega, by omega⟩ hl.1 rfl (Nat.le_of_ble_eq_true rfl) dL_law_195 ?_
      refine sX_a 4 (i) hC hV (by omega) (by omega) rfl (by omega) hS hAX dL_law_198 (fun H locs hV hS hz hf => ?_)
      have hB := hB.kept (fun k hk => hf _ (hax k (4) hk (by omega)))
      have hN := hN.kept (fun k hk => hf _ (hbx k (4) hk (by omega)))
      refine lv_iconst (v := 0) hx hb dL_law_199 (by decide) ?_
      refine lv_istore (lv' := [(20, .int (0)), (19, .int (nI i)), (13, .int (dmx (bPr S R) i)), (14, .int (smn (S 3) i)), (15, .int (dueS S i)), (16, .int (brg S R i)), (17, .int (0)), (18, .int (0)), (0, .ref (bs)), (1, .ref (a 13)), (2, .ref (b 0)), (3, .int (nI tm)), (5, .int (nI T)), (6, .int (nI R)), (7, .ref (x 0)), (8, .ref (x 1)), (9, .ref (x 2)), (10, .ref (x 3)), (11, .ref (x 4)), (12, .ref (x 5))]) hx hb dL_law_200 hl (by decide) rfl (fun ls hl => ?_)
      refine lv_iconst (v := 0) hx hb dL_law_202 (by decide) ?_
      refine lv_istore (lv' := [(21, .int (0)), (20, .int (0)), (19, .int (nI i)), (13, .int (dmx (bPr S R) i)), (14, .int (smn (S 3) i)), (15, .int (dueS S i)), (16, .int (brg S R i)), (17, .int (0)), (18, .int (0)), (0, .ref (bs)), (1, .ref (a 13)), (2, .ref (b 0)), (3, .int (nI tm)), (5, .int (nI T)), (6, .int (nI R)), (7, .ref (x 0)), (8, .ref (x 1)), (9, .ref (x 2)), (10, .ref (x 3)), (11, .ref (x 4)), (12, .ref (x 5))]) hx hb dL_law_203 hl (by decide) rfl (fun ls hl => ?_)
      have hW : L1 D cI cQ a b x S N T R (fun F => FQ S R F i 0) s H := ⟨hB, hN, _, hV, FP.go hF⟩
      refine lv_iconst (v := 0) hx hb dL_law_205 (by decide) ?_
      refine lv_istore (lv' := [(22, .int (0)), (21, .int (0)), (20, .int (0)), (19, .int (nI i)), (13, .int (dmx (bPr S R) i)), (14, .int (smn (S 3) i)), (15, .int (dueS S i)), (16, .int (brg S R i)), (17, .int (0)), (18, .int (0)), (0, .ref (bs)), (1, .ref (a 13)), (2, .ref (b 0)), (3, .int (nI tm)), (5, .int (nI T)), (6, .int (nI R)), (7, .ref (x 0)), (8, .ref (x 1)), (9, .ref (x 2)), (10, .ref (x 3)), (11, .ref (x 4)), (12, .ref (x 5))]) hx hb dL_law_206 hl (by decide) rfl (fun ls hl => ?_)
      refine loopU (P := fun r => ∀ (H : Heap) (locs : List Loc), L1 D cI cQ a b x S N T R (fun F => FQ S R F i r) s H → va_S (fun q => s.heap.size ≤ q) s.heap H locs → ∀ ls : Array Slot, lv_has ls 25 [(22, .int (nI r)), (20, .int (sDv S i r)), (21, .int (sma 0 (fun r => S (7 + r) i) r)), (19, .int (nI i)), (13, .int (dmx (bPr S R) i)), (14, .int (smn (S 3) i)), (15, .int (dueS S i)), (16, .int (brg S R i)), (17, .int (0)), (18, .int (0)), (0, .ref (bs)), (1, .ref (a 13)), (2, .ref (b 0)), (3, .int (nI tm)), (5, .int (nI T)), (6, .int (nI R)), (7, .ref (x 0)), (8, .ref (x 1)), (9, .ref (x 2)), (10, .ref (x 3)), (11, .ref (x 4)), (12, .ref (x 5))] → W p l e room_1 s m args below meth c H locs cells slots (Q) (F0 m 208 ls [])) (R) ?_ ?_ 0 (by omega) H locs hW hS ls (by first | exact lv_sub hl [0, 2, 1, 3, 4, 5, 6, 7, 8, 9, 10, 11, 12, 13, 14, 15, 16, 17, 18, 19, 20, 21] rfl | (simpa using lv_sub hl [0, 2, 1, 3, 4, 5, 6, 7, 8, 9, 10, 11, 12, 13, 14, 15, 16, 17, 18, 19, 20, 21] rfl))
      · intro H locs hW hS ls hl
        obtain ⟨hB, hN, F, hV, hF⟩ := hW
        refine lv_iload hx hb dL_law_208 (lv_at hl 0 rfl) ?_
        refine lv_iload hx hb dL_law_210 (lv_at hl 15 rfl) ?_
        refine jge (i := R) (j := R) (tgt := 307) hC dL_law_212 (by decide) rfl rfl (by omega) (by omega) (fun c3 => ?_) (fun c3 => ?_)
        · refine lv_aload hx hb dL_law_307 (lv_at hl 16 rfl) ?_
          refine lv_iload hx hb dL_law_309 (lv_at hl 3 rfl) ?_
          refine lX_a (v := S 2 i) 0 (i) hC hV (by omega) (by omega) rfl (by omega) (hF.2.1.1) dL_law_311 ?_
          refine lv_if_lt (tgt := 439) hx hb dL_law_312 (by decide) (fun c4 => ?_) (fun c4 => ?_)
          · exfalso; exact hJ.a1 hi c4
          · refine lv_aload hx hb dL_law_315 (lv_at hl 17 rfl) ?_
            refine lv_iload hx hb dL_law_317 (lv_at hl 3 rfl) ?_
            refine lX_a (v := bPr S R i) 1 (i) hC hV (by omega) (by omega) rfl (by omega) (hF.2.1.2.1) dL_law_319 ?_
            refine lv_if_lt (tgt := 439) hx hb dL_law_320 (by decide) (fun c5 => ?_) (fun c5 => ?_)
            · exfalso; exact hJ.a2 hi c5
            · refine lv_aload hx hb dL_law_323 (lv_at hl 17 rfl) ?_
              refine lv_iload hx hb dL_law_325 (lv_at hl 3 rfl) ?_
              refine lX_a (v := bPr S R i) 1 (i) hC hV (by omega) (by omega) rfl (by omega) (hF.2.1.2.1) dL_law_327 ?_
              refine lv_aload hx hb dL_law_328 (lv_at hl 16 rfl) ?_
              refine lv_iload hx hb dL_law_330 (lv_at hl 3 rfl) ?_
              refine lX_a (v := S 2 i) 0 (i) hC hV (by omega) (by omega) rfl (by omega) (hF.2.1.1) dL_law_332 ?_
              refine lv_aload_n hx hb dL_law_333 rfl (lv_at hl 12 rfl) ?_
              refine gL_towers hC hN dL_law_334 ?_
              refine lv_iload hx hb dL_law_337 (lv_at hl 3 rfl) ?_
              refine lS_tw (i) hC hN rfl (by omega) (by omega) dL_law_339 ?_
              refine lv_iconst (v := 0) hx hb dL_law_340 (by decide) ?_
              refine lS_row (i) (0) hC hN (by omega) rfl (by omega) rfl dL_law_341 ?_
              refine lv_imul hx hb dL_law_342 ?_
              refine lv_icmp_gt (tgt := 439) hx hb dL_law_343 (by decide) (fun c6 => ?_) (fun c6 => ?_)
              · exfalso; exact hJ.a3 hi c6
              · refine lv_aload hx hb dL_law_346 (lv_at hl 18 rfl) ?_
                refine lv_iload hx hb dL_law_348 (lv_at hl 3 rfl) ?_
                refine lX_a (v := S 3 i) 2 (i) hC hV (by omega) (by omega) rfl (by omega) (hF.2.1.2.2.1) dL_law_350 ?_
                refine lv_iconst (v := 1) hx hb dL_law_351 (by decide) ?_
                refine lv_icmp_lt (tgt := 439) hx hb dL_law_352 (by decide) (fun c7 => ?_) (fun c7 => ?_)
                · exfalso; exact hJ.a4 hi c7
                · refine lv_aload hx hb dL_law_355 (lv_at hl 18 rfl) ?_
                  refine lv_iload hx hb dL_law_357 (lv_at hl 3 rfl) ?_
                  refine lX_a (v := S 3 i) 2 (i) hC hV (by omega) (by omega) rfl (by omega) (hF.2.1.2.2.1) dL_law_359 ?_
                  refine lv_aload_n hx hb dL_law_360 rfl (lv_at hl 12 rfl) ?_
                  refine gL_towers hC hN dL_law_361 ?_
                  refine lv_iload hx hb dL_law_364 (lv_at hl 3 rfl) ?_
                  refine lS_tw (i) hC hN rfl (by omega) (by omega) dL_law_366 ?_
                  refine lv_iconst (v := 1) hx hb dL_law_367 (by decide) ?_
                  refine lS_row (i) (1) hC hN (by omega) rfl (by omega) rfl dL_law_368 ?_
                  refine lv_icmp_gt (tgt := 439) hx hb dL_law_369 (by decide) (fun c8 => ?_) (fun c8 => ?_)
                  · exfalso; exact hJ.a5 hi c8
                  · refine lv_iload hx hb dL_law_372 (lv_at hl 1 rfl) ?_
                    refine lv_aload_n hx hb dL_law_374 rfl (lv_at hl 11 rfl) ?_
                    refine lv_iload hx hb dL_law_375 (lv_at hl 3 rfl) ?_
                    refine kL_X0_dovesOn hC (c_X0_dovesOn l D cI cQ a S hJ.1 (t := i) (by omega)) hB rfl ⟨rfl, rfl⟩ ⟨Nat.le_of_ble_eq_true rfl, Nat.le_of_ble_eq_true rfl⟩ ⟨by omega, by omega⟩ hl.1 rfl (Nat.le_of_ble_eq_true rfl) dL_law_377 ?_
                    refine lv_icmp_ne (tgt := 439) hx hb dL_law_380 (by decide) (fun c9 => ?_) (fun c9 => ?_)
                    · exfalso; exact c9 (hJ.a6 hi)
                    · refine lv_iload hx hb dL_law_383 (lv_at hl 2 rfl) ?_
                      refine lv_aload hx hb dL_law_385 (lv_at hl 20 rfl) ?_
                      refine lv_iload hx hb dL_law_387 (lv_at hl 3 rfl) ?_
                      refine lX_a (v := bOp S R i) 4 (i) hC hV (by omega) (by omega) rfl (by omega) (hF.2.1.2.2.2.2) dL_law_389 ?_
                      refine lv_icmp_ne (tgt := 439) hx hb dL_law_390 (by decide) (fun c10 => ?_) (fun c10 => ?_)
                      · exfalso; exact c10 rfl
                      · refine lv_aload hx hb dL_law_393 (lv_at hl 17 rfl) ?_
                        refine lv_iload hx hb dL_law_395 (lv_at hl 3 rfl) ?_
                        refine lX_a (v := bPr S R i) 1 (i) hC hV (by omega) (by omega) rfl (by omega) (hF.2.1.2.1) dL_law_397 ?_
                        refine lv_iconst (v := 0) hx hb dL_law_398 (by decide) ?_
                        refine lv_aload hx hb dL_law_399 (lv_at hl 16 rfl) ?_
                        refine lv_iload hx hb dL_law_401 (lv_at hl 3 rfl) ?_
                        refine lX_a (v := S 2 i) 0 (i) hC hV (by omega) (by omega) rfl (by omega) (hF.2.1.1) dL_law_403 ?_
                        refine lv_aload_n hx hb dL_law_404 rfl (lv_at hl 12 rfl) ?_
                        refine gL_towers hC hN dL_law_405 ?_
                        refine lv_iload hx hb dL_law_408 (lv_at hl 3 rfl) ?_
                        refine lS_tw (i) hC hN rfl (by omega) (by omega) dL_law_410 ?_
                        refine lv_iconst (v := 0) hx hb dL_law_411 (by decide) ?_
                        refine lS_row (i) (0) hC hN (by omega) rfl (by omega) rfl dL_law_412 ?_
                        refine lv_imul hx hb dL_law_413 ?_
                        refine lv_iconst (v := 2) hx hb dL_law_414 (by decide) ?_
                        refine lv_iload hx hb dL_law_415 (lv_at hl 1 rfl) ?_
                        refine lv_imul hx hb dL_law_417 ?_
                        refine lv_isub hx hb dL_law_418 ?_
                        refine k_L_max hC hl.1 ⟨Nat.le_of_ble_eq_true rfl, Nat.le_of_ble_eq_true rfl⟩ ⟨by omega, by omega⟩ dL_law_419 ?_
                        refine lv_icmp_ne (tgt := 439) hx hb dL_law_422 (by decide) (fun c11 => ?_) (fun c11 => ?_)
                        · exfalso; exact c11 (hJ.a7 hi)
                        · refine lv_aload_n hx hb dL_law_425 rfl (lv_at hl 11 rfl) ?_
                          refine lv_iload hx hb dL_law_426 (lv_at hl 3 rfl) ?_
                          refine kL_X0_closingPrice hC (c_X0_closingPrice l D cI cQ a S hJ.1 (t := i) (by omega)) hB rfl ⟨rfl, rfl⟩ ⟨Nat.le_of_ble_eq_true rfl, Nat.le_of_ble_eq_true rfl⟩ ⟨by omega, by omega⟩ hl.1 rfl (Nat.le_of_ble_eq_true rfl) dL_law_428 ?_
                          refine lv_aload hx hb dL_law_431 (lv_at hl 17 rfl) ?_
                          refine lv_iload hx hb dL_law_433 (lv_at hl 3 rfl) ?_
                          refine lX_a (v := bPr S R i) 1 (i) hC hV (by omega) (by omega) rfl (by omega) (hF.2.1.2.1) dL_law_435 ?_
                          refine lv_icmp_ge (tgt := 441) hx hb dL_law_436 (by decide) (fun c12 => ?_) (fun c12 => ?_)
                          · refine lv_iload hx hb dL_law_441 (lv_at hl 4 rfl) ?_
                            refine lv_aload hx hb dL_law_443 (lv_at hl 17 rfl) ?_
                            refine lv_iload hx hb dL_law_445 (lv_at hl 3 rfl) ?_
                            refine lX_a (v := bPr S R i) 1 (i) hC hV (by omega) (by omega) rfl (by omega) (hF.2.1.2.1) dL_law_447 ?_
                            refine k_L_max hC hl.1 ⟨Nat.le_of_ble_eq_true rfl, Nat.le_of_ble_eq_true rfl⟩ ⟨by omega, by omega⟩ dL_law_448 ?_
                            refine lv_istore (lv' := [(13, .int (mx (dmx (bPr S R) i) (bPr S R i))), (22, .int (nI R)), (20, .int (sDv S i R)), (21, .int (sma 0 (fun r => S (7 + r) i) R)), (19, .int (nI i)), (14, .int (smn (S 3) i)), (15, .int (dueS S i)), (16, .int (brg S R i)), (17, .int (0)), (18, .int (0)), (0, .ref (bs)), (1, .ref (a 13)), (2, .ref (b 0)), (3, .int (nI tm)), (5, .int (nI T)), (6, .int (nI R)), (7, .ref (x 0)), (8, .ref (x 1)), (9, .ref (x 2)), (10, .ref (x 3)), (11, .ref (x 4)), (12, .ref (x 5))]) hx hb dL_law_451 hl (by decide) rfl (fun ls hl => ?_)
                            refine lv_iload hx hb dL_law_453 (lv_at hl 5 rfl) ?_
                            refine lv_aload hx hb dL_law_455 (lv_at hl 18 rfl) ?_
                            refine lv_iload hx hb dL_law_457 (lv_at hl 4 rfl) ?_
                            refine lX_a (v := S 3 i) 2 (i) hC hV (by omega) (by omega) rfl (by omega) (hF.2.1.2.2.1) dL_law_459 ?_
                            refine k_L_min hC hl.1 ⟨Nat.le_of_ble_eq_true rfl, Nat.le_of_ble_eq_true rfl⟩ ⟨by omega, by omega⟩ dL_law_460 ?_
                            refine lv_istore (lv' := [(14, .int (mn (smn (S 3) i) (S 3 i))), (13, .int (mx (dmx (bPr S R) i) (bPr S R i))), (22, .int (nI R)), (20, .int (sDv S i R)), (21, .int (sma 0 (fun r => S (7 + r) i) R)), (19, .int (nI i)), (15, .int (dueS S i)), (16, .int (brg S R i)), (17, .int (0)), (18, .int (0)), (0, .ref (bs)), (1, .ref (a 13)), (2, .ref (b 0)), (3, .int (nI tm)), (5, .int (nI T)), (6, .int (nI R)), (7, .ref (x 0)), (8, .ref (x 1)), (9, .ref (x 2)), (10, .ref (x 3)), (11, .ref (x 4)), (12, .ref (x 5))]) hx hb dL_law_463 hl (by decide) rfl (fun ls hl => ?_)
                            refine lv_aload hx hb dL_law_465 (lv_at hl 18 rfl) ?_
                            refine lv_iload hx hb dL_law_467 (lv_at hl 5 rfl) ?_
                            refine lX_a (v := S 3 i) 2 (i) hC hV (by omega) (by omega) rfl (by omega) (hF.2.1.2.2.1) dL_law_469 ?_
                            refine lv_iconst (v := 1) hx hb dL_law_470 (by decide) ?_
                            refine lv_icmp_eq (tgt := 477) hx hb dL_law_471 (by decide) (fun c13 => ?_) (fun c13 => ?_)
                            · refine lv_iinc (v := (dueS S i) + 1) (lv' := [(15, .int ((dueS S i) + 1)), (14, .int (mn (smn (S 3) i) (S 3 i))), (13, .int (mx (dmx (bPr S R) i) (bPr S R i))), (22, .int (nI R)), (20, .int (sDv S i R)), (21, .int (sma 0 (fun r => S (7 + r) i) R)), (19, .int (nI i)), (16, .int (brg S R i)), (17, .int (0)), (18, .int (0)), (0, .ref (bs)), (1, .ref (a 13)), (2, .ref (b 0)), (3, .int (nI tm)), (5, .int (nI T)), (6, .int (nI R)), (7, .ref (x 0)), (8, .ref (x 1)), (9, .ref (x 2)), (10, .ref (x 3)), (11, .ref (x 4)), (12, .ref (x 5))]) hx hb dL_law_477 hl (k := 6) rfl (rfl) (by decide) rfl (fun ls hl => ?_)
                              refine lv_iload hx hb dL_law_480 (lv_at hl 7 rfl) ?_
                              refine lv_aload hx hb dL_law_482 (lv_at hl 17 rfl) ?_
                              refine lv_iload hx hb dL_law_484 (lv_at hl 6 rfl) ?_
                              refine lX_a (v := bPr S R i) 1 (i) hC hV (by omega) (by omega) rfl (by omega) (hF.2.1.2.1) dL_law_486 ?_
                              refine lv_aload hx hb dL_law_487 (lv_at hl 20 rfl) ?_
                              refine lv_iload hx hb dL_law_489 (lv_at hl 6 rfl) ?_
                              refine lX_a (v := bOp S R i) 4 (i) hC hV (by omega) (by omega) rfl (by omega) (hF.2.1.2.2.2.2) dL_law_491 ?_
                              refine lv_imul hx hb dL_law_492 ?_
                              refine lv_iadd hx hb dL_law_493 ?_
                              refine lv_istore (lv' := [(16, .int ((brg S R i) + ((bPr S R i) * (bOp S R i)))), (15, .int ((dueS S i) + 1)), (14, .int (mn (smn (S 3) i) (S 3 i))), (13, .int (mx (dmx (bPr S R) i) (bPr S R i))), (22, .int (nI R)), (20, .int (sDv S i R)), (21, .int (sma 0 (fun r => S (7 + r) i) R)), (19, .int (nI i)), (17, .int (0)), (18, .int (0)), (0, .ref (bs)), (1, .ref (a 13)), (2, .ref (b 0)), (3, .int (nI tm)), (5, .int (nI T)), (6, .int (nI R)), (7, .ref (x 0)), (8, .ref (x 1)), (9, .ref (x 2)), (10, .ref (x 3)), (11, .ref (x 4)), (12, .ref (x 5))]) hx hb dL_law_494 hl (by decide) rfl (fun ls hl => ?_)
                              refine lv_iinc (v := nI (i + 1)) (lv' := [(19, .int (nI (i + 1))), (16, .int ((brg S R i) + ((bPr S R i) * (bOp S R i)))), (15, .int ((dueS S i) + 1)), (14, .int (mn (smn (S 3) i) (S 3 i))), (13, .int (mx (dmx (bPr S R) i) (bPr S R i))), (22, .int (nI R)), (20, .int (sDv S i R)), (21, .int (sma 0 (fun r => S (7 + r) i) R)), (17, .int (0)), (18, .int (0)), (0, .ref (bs)), (1, .ref (a 13)), (2, .ref (b 0)), (3, .int (nI tm)), (5, .int (nI T)), (6, .int (nI R)), (7, .ref (x 0)), (8, .ref (x 1)), (9, .ref (x 2)), (10, .ref (x 3)), (11, .ref (x 4)), (12, .ref (x 5))]) hx hb dL_law_496 hl (k := 7) rfl (ninc i) (by decide) rfl (fun ls hl => ?_)
                              refine lv_goto (tgt := 137) hx hb dL_law_499 (by decide) ?_
                              have e14 : dueS S (i + 1) = (dueS S i) + 1 := by show _ + (if _ then _ else _) = _; rw [if_pos c13] <;> rfl
                              have e15 : brg S R (i + 1) = (brg S R i) + ((bPr S R i) * (bOp S R i)) := by show _ + (if _ then _ else _) = _; rw [if_pos c13] <;> rfl
                              exact ih H locs (⟨hB, hN, _, hV, hF.fin⟩) hS ls (by rw [e14, e15]; exact lv_sub hl [0, 4, 3, 2, 1, 8, 9, 10, 11, 12, 13, 14, 15, 16, 17, 18, 19, 20, 21] rfl)
                            · refine lv_goto (tgt := 496) hx hb dL_law_474 (by decide) ?_
                              refine lv_iinc (v := nI (i + 1)) (lv' := [(19, .int (nI (i + 1))), (14, .int (mn (smn (S 3) i) (S 3 i))), (13, .int (mx (dmx (bPr S R) i) (bPr S R i))), (22, .int (nI R)), (20, .int (sDv S i R)), (21, .int (sma 0 (fun r => S (7 + r) i) R)), (15, .int (dueS S i)), (16, .int (brg S R i)), (17, .int (0)), (18, .int (0)), (0, .ref (bs)), (1, .ref (a 13)), (2, .ref (b 0)), (3, .int (nI tm)), (5, .int (nI T)), (6, .int (nI R)), (7, .ref (x 0)), (8, .ref (x 1)), (9, .ref (x 2)), (10, .ref (x 3)), (11, .ref (x 4)), (12, .ref (x 5))]) hx hb dL_law_496 hl (k := 5) rfl (ninc i) (by decide) rfl (fun ls hl => ?_)
                              refine lv_goto (tgt := 137) hx hb dL_law_499 (by decide) ?_
                              have e16 : dueS S (i + 1) = dueS S i := by show _ + (if _ then _ else _) = _; rw [if_neg c13, Int32.add_zero] <;> rfl
                              have e17 : brg S R (i + 1) = brg S R i := by show _ + (if _ then _ else _) = _; rw [if_neg c13, Int32.add_zero] <;> rfl
                              exact ih H locs (⟨hB, hN, _, hV, hF.fin⟩) hS ls (by rw [e16, e17]; exact lv_sub hl [0, 2, 1, 6, 7, 8, 9, 10, 11, 12, 13, 14, 15, 16, 17, 18, 19, 20, 21] rfl)
                          · exfalso; exact c12 (hJ.a8 hi)
        · exfalso; omega
      · intro r hr rh H locs hW hS ls hl
        obtain ⟨hB, hN, F, hV, hF⟩ := hW
        refine lv_iload hx hb dL_law_208 (lv_at hl 0 rfl) ?_
        refine lv_iload hx hb dL_law_210 (lv_at hl 15 rfl) ?_
        refine jge (i := r) (j := R) (tgt := 307) hC dL_law_212 (by decide) rfl rfl (by omega) (by omega) (fun c18 => ?_) (fun c18 => ?_)
        · exfalso; omega
        · refine lv_aload hx hb dL_law_215 (lv_at hl 21 rfl) ?_
          refine lv_iload hx hb dL_law_217 (lv_at hl 0 rfl) ?_
          refine lX_r (r) hC hV (by omega) rfl (by omega) dL_law_219 ?_
          refine lv_iload hx hb dL_law_220 (lv_at hl 3 rfl) ?_
          refine lv_aload_n hx hb dL_law_222 rfl (lv_at hl 11 rfl) ?_
          refine lv_iload hx hb dL_law_223 (lv_at hl 0 rfl) ?_
          refine lv_iload hx hb dL_law_225 (lv_at hl 3 rfl) ?_
          refine kL_X0_holds hC (c_X0_holds l D cI cQ a S hJ.1 (r := r) (t := i) (by omega) (by omega)) hB rfl ⟨rfl, rfl⟩ ⟨Nat.le_of_ble_eq_true rfl, Nat.le_of_ble_eq_true rfl⟩ ⟨by omega, by omega⟩ hl.1 rfl (Nat.le_of_ble_eq_true rfl) dL_law_227 ?_
          refine sX_h (r) (i) hC hV (by omega) (by omega) rfl (by omega) hS hAX dL_law_230 (fun H locs hV hS hz hf => ?_)
          have hB := hB.kept (fun k hk => hf _ (hax k (6 + r) hk (by omega)))
          have hN := hN.kept (fun k hk => hf _ (hbx k (6 + r) hk (by omega)))
          refine lv_iload hx hb dL_law_231 (lv_at hl 1 rfl) ?_
          refine lv_aload hx hb dL_law_233 (lv_at hl 21 rfl) ?_
          refine lv_iload hx hb dL_law_235 (lv_at hl 0 rfl) ?_
          refine lX_r (r) hC hV (by omega) rfl (by omega) dL_law_237 ?_
          refine lv_iload hx hb dL_law_238 (lv_at hl 3 rfl) ?_
          refine lX_h (v := S (7 + r) i) (r) (i) hC hV (by omega) (by omega) rfl (by omega) (by rw [up2_eq]) dL_law_240 ?_
          refine lv_if_ge (tgt := 256) hx hb dL_law_241 (by decide) (fun c19 => ?_) (fun c19 => ?_)
          · refine lv_iconst (v := 0) hx hb dL_law_256 (by decide) ?_
            refine lv_iadd hx hb dL_law_257 ?_
            refine lv_istore (lv' := [(20, .int ((sDv S i r) + 0)), (22, .int (nI r)), (21, .int (sma 0 (fun r => S (7 + r) i) r)), (19, .int (nI i)), (13, .int (dmx (bPr S R) i)), (14, .int (smn (S 3) i)), (15, .int (dueS S i)), (16, .int (brg S R i)), (17, .int (0)), (18, .int (0)), (0, .ref (bs)), (1, .ref (a 13)), (2, .ref (b 0)), (3, .int (nI tm)), (5, .int (nI T)), (6, .int (nI R)), (7, .ref (x 0)), (8, .ref (x 1)), (9, .ref (x 2)), (10, .ref (x 3)), (11, .ref (x 4)), (12, .ref (x 5))]) hx hb dL_law_258 hl (by decide) rfl (fun ls hl => ?_)
            refine lv_iload hx hb dL_law_260 (lv_at hl 2 rfl) ?_
            refine lv_aload hx hb dL_law_262 (lv_at hl 21 rfl) ?_
            refine lv_iload hx hb dL_law_264 (lv_at hl 1 rfl) ?_
            refine lX_r (r) hC hV (by omega) rfl (by omega) dL_law_266 ?_
            refine lv_iload hx hb dL_law_267 (lv_at hl 3 rfl) ?_
            refine lX_h (v := S (7 + r) i) (r) (i) hC hV (by omega) (by omega) rfl (by omega) (by rw [up2_eq]) dL_law_269 ?_
            refine lv_iadd hx hb dL_law_270 ?_
            refine lv_istore (lv' := [(21, .int ((sma 0 (fun r => S (7 + r) i) r) + (S (7 + r) i))), (20, .int ((sDv S i r) + 0)), (22, .int (nI r)), (19, .int (nI i)), (13, .int (dmx (bPr S R) i)), (14, .int (smn (S 3) i)), (15, .int (dueS S i)), (16, .int (brg S R i)), (17, .int (0)), (18, .int (0)), (0, .ref (bs)), (1, .ref (a 13)), (2, .ref (b 0)), (3, .int (nI tm)), (5, .int (nI T)), (6, .int (nI R)), (7, .ref (x 0)), (8, .ref (x 1)), (9, .ref (x 2)), (10, .ref (x 3)), (11, .ref (x 4)), (12, .ref (x 5))]) hx hb dL_law_271 hl (by decide) rfl (fun ls hl => ?_)
            refine lv_aload hx hb dL_law_273 (lv_at hl 21 rfl) ?_
            refine lv_iload hx hb dL_law_275 (lv_at hl 2 rfl) ?_
            refine lX_r (r) hC hV (by omega) rfl (by omega) dL_law_277 ?_
            refine lv_iload hx hb dL_law_278 (lv_at hl 3 rfl) ?_
            refine lX_h (v := S (7 + r) i) (r) (i) hC hV (by omega) (by omega) rfl (by omega) (by rw [up2_eq]) dL_law_280 ?_
            refine lv_bipush (v := -9) hx hb dL_law_281 (by decide) ?_
            refine lv_icmp_lt (tgt := 299) hx hb dL_law_283 (by decide) (fun c20 => ?_) (fun c20 => ?_)
            · exfalso; exact (hJ.h9 (by omega) (by omega)).1 c20
            · refine lv_aload hx hb dL_law_286 (lv_at hl 21 rfl) ?_
              refine lv_iload hx hb dL_law_288 (lv_at hl 2 rfl) ?_
              refine lX_r (r) hC hV (by omega) rfl (by omega) dL_law_290 ?_
              refine lv_iload hx hb dL_law_291 (lv_at hl 3 rfl) ?_
              refine lX_h (v := S (7 + r) i) (r) (i) hC hV (by omega) (by omega) rfl (by omega) (by rw [up2_eq]) dL_law_293 ?_
              refine lv_bipush (v := 9) hx hb dL_law_294 (by decide) ?_
              refine lv_icmp_le (tgt := 301) hx hb dL_law_296 (by decide) (fun c21 => ?_) (fun c21 => ?_)
              · refine lv_iinc (v := nI (r + 1)) (lv' := [(22, .int (nI (r + 1))), (21, .int ((sma 0 (fun r => S (7 + r) i) r) + (S (7 + r) i))), (20, .int ((sDv S i r) + 0)), (19, .int (nI i)), (13, .int (dmx (bPr S R) i)), (14, .int (smn (S 3) i)), (15, .int (dueS S i)), (16, .int (brg S R i)), (17, .int (0)), (18, .int (0)), (0, .ref (bs)), (1, .ref (a 13)), (2, .ref (b 0)), (3, .int (nI tm)), (5, .int (nI T)), (6, .int (nI R)), (7, .ref (x 0)), (8, .ref (x 1)), (9, .ref (x 2)), (10, .ref (x 3)), (11, .ref (x 4)), (12, .ref (x 5))]) hx hb dL_law_301 hl (k := 2) rfl (ninc r) (by decide) rfl (fun ls hl => ?_)
                refine lv_goto (tgt := 208) hx hb dL_law_304 (by decide) ?_
                have e22 : sDv S i (r + 1) = (sDv S i r) + 0 := by show _ + (if _ then _ else _) = _; rw [if_pos c19] <;> rfl
                exact rh H locs (⟨hB, hN, _, hV, hF.st⟩) hS ls (by rw [e22]; exact lv_sub hl [0, 2, 1, 3, 4, 5, 6, 7, 8, 9, 10, 11, 12, 13, 14, 15, 16, 17, 18, 19, 20, 21] rfl)
              · exfalso; exact c21 (hJ.h9 (by omega) (by omega)).2
          · refine lv_aload hx hb dL_law_244 (lv_at hl 21 rfl) ?_
            refine lv_iload hx hb dL_law_246 (lv_at hl 0 rfl) ?_
            refine lX_r (r) hC hV (by omega) rfl (by omega) dL_law_248 ?_
            refine lv_iload hx hb dL_law_249 (lv_at hl 3 rfl) ?_
            refine lX_h (v := S (7 + r) i) (r) (i) hC hV (by omega) (by omega) rfl (by omega) (by rw [up2_eq]) dL_law_251 ?_
            refine lv_ineg hx hb dL_law_252 ?_
            refine lv_goto (tgt := 257) hx hb dL_law_253 (by decide) ?_
            refine lv_iadd hx hb dL_law_257 ?_
            refine lv_istore (lv' := [(20, .int ((sDv S i r) + (-(S (7 + r) i)))), (22, .int (nI r)), (21, .int (sma 0 (fun r => S (7 + r) i) r)), (19, .int (nI i)), (13, .int (dmx (bPr S R) i)), (14, .int (smn (S 3) i)), (15, .int (dueS S i)), (16, .int (brg S R i)), (17, .int (0)), (18, .int (0)), (0, .ref (bs)), (1, .ref (a 13)), (2, .ref (b 0)), (3, .int (nI tm)), (5, .int (nI T)), (6, .int (nI R)), (7, .ref (x 0)), (8, .ref (x 1)), (9, .ref (x 2)), (10, .ref (x 3)), (11, .ref (x 4)), (12, .ref (x 5))]) hx hb dL_law_258 hl (by decide) rfl (fun ls hl => ?_)
            refine lv_iload hx hb dL_law_260 (lv_at hl 2 rfl) ?_
            refine lv_aload hx hb dL_law_262 (lv_at hl 21 rfl) ?_
            refine lv_iload hx hb dL_law_264 (lv_at hl 1 rfl) ?_
            refine lX_r (r) hC hV (by omega) rfl (by omega) dL_law_266 ?_
            refine lv_iload hx hb dL_law_267 (lv_at hl 3 rfl) ?_
            refine lX_h (v := S (7 + r) i) (r) (i) hC hV (by omega) (by omega) rfl (by omega) (by rw [up2_eq]) dL_law_269 ?_
            refine lv_iadd hx hb dL_law_270 ?_
            refine lv_istore (lv' := [(21, .int ((sma 0 (fun r => S (7 + r) i) r) + (S (7 + r) i))), (20, .int ((sDv S i r) + (-(S (7 + r) i)))), (22, .int (nI r)), (19, .int (nI i)), (13, .int (dmx (bPr S R) i)), (14, .int (smn (S 3) i)), (15, .int (dueS S i)), (16, .int (brg S R i)), (17, .int (0)), (18, .int (0)), (0, .ref (bs)), (1, .ref (a 13)), (2, .ref (b 0)), (3, .int (nI tm)), (5, .int (nI T)), (6, .int (nI R)), (7, .ref (x 0)), (8, .ref (x 1)), (9, .ref (x 2)), (10, .ref (x 3)), (11, .ref (x 4)), (12, .ref (x 5))]) hx hb dL_law_271 hl (by decide) rfl (fun ls hl => ?_)
            refine lv_aload hx hb dL_law_273 (lv_at hl 21 rfl) ?_
            refine lv_iload hx hb dL_law_275 (lv_at hl 2 rfl) ?_
            refine lX_r (r) hC hV (by omega) rfl (by omega) dL_law_277 ?_
            refine lv_iload hx hb dL_law_278 (lv_at hl 3 rfl) ?_
            refine lX_h (v := S (7 + r) i) (r) (i) hC hV (by omega) (by omega) rfl (by omega) (by rw [up2_eq]) dL_law_280 ?_
            refine lv_bipush (v := -9) hx hb dL_law_281 (by decide) ?_
            refine lv_icmp_lt (tgt := 299) hx hb dL_law_283 (by decide) (fun c23 => ?_) (fun c23 => ?_)
            · exfalso; exact (hJ.h9 (by omega) (by omega)).1 c23
            · refine lv_aload hx hb dL_law_286 (lv_at hl 21 rfl) ?_
              refine lv_iload hx hb dL_law_288 (lv_at hl 2 rfl) ?_
              refine lX_r (r) hC hV (by omega) rfl (by omega) dL_law_290 ?_
              refine lv_iload hx hb dL_law_291 (lv_at hl 3 rfl) ?_
              refine lX_h (v := S (7 + r) i) (r) (i) hC hV (by omega) (by omega) rfl (by omega) (by rw [up2_eq]) dL_law_293 ?_
              refine lv_bipush (v := 9) hx hb dL_law_294 (by decide) ?_
              refine lv_icmp_le (tgt := 301) hx hb dL_law_296 (by decide) (fun c24 => ?_) (fun c24 => ?_)
              · refine lv_iinc (v := nI (r + 1)) (lv' := [(22, .int (nI (r + 1))), (21, .int ((sma 0 (fun r => S (7 + r) i) r) + (S (7 + r) i))), (20, .int ((sDv S i r) + (-(S (7 + r) i)))), (19, .int (nI i)), (13, .int (dmx (bPr S R) i)), (14, .int (smn (S 3) i)), (15, .int (dueS S i)), (16, .int (brg S R i)), (17, .int (0)), (18, .int (0)), (0, .ref (bs)), (1, .ref (a 13)), (2, .ref (b 0)), (3, .int (nI tm)), (5, .int (nI T)), (6, .int (nI R)), (7, .ref (x 0)), (8, .ref (x 1)), (9, .ref (x 2)), (10, .ref (x 3)), (11, .ref (x 4)), (12, .ref (x 5))]) hx hb dL_law_301 hl (k := 2) rfl (ninc r) (by decide) rfl (fun ls hl => ?_)
                refine lv_goto (tgt := 208) hx hb dL_law_304 (by decide) ?_
                have e25 : sDv S i (r + 1) = (sDv S i r) + (-(S (7 + r) i)) := by show _ + (if _ then _ else _) = _; rw [if_neg c19] <;> rfl
                exact rh H locs (⟨hB, hN, _, hV, hF.st⟩) hS ls (by rw [e25]; exact lv_sub hl [0, 2, 1, 3, 4, 5, 6, 7, 8, 9, 10, 11, 12, 13, 14, 15, 16, 17, 18, 19, 20, 21] rfl)
              · exfalso; exact c24 (hJ.h9 (by omega) (by omega)).2

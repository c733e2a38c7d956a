/-! ===== the law's loop ===== -/
theorem and31 (x : Int32) : 0 ≤ (x &&& 31).toInt ∧ (x &&& 31).toInt ≤ 31 := by
  have h : (x.toBitVec &&& 31#32).toNat ≤ 31 := by
    rw [BitVec.toNat_and]
    exact Nat.and_le_right
  have e : (x &&& 31).toInt = ((x.toBitVec &&& 31#32).toNat : Int) := by
    show (x.toBitVec &&& 31#32).toInt = _
    exact BitVec.toInt_eq_toNat_of_lt (by omega)
  omega
theorem gt4 {n L : Nat} (hL : L ≤ 2048) (hn : n ≤ 512) : nI L - 4 < nI (4 * n) ↔ L < 4 * n + 4 := by
  have e4 : (4 : Int32).toInt = 4 := by decide
  have e1 := nI_toInt (n := L) (by omega)
  have e2 := nI_toInt (n := 4 * n) (by omega)
  rw [Int32.lt_iff_toInt_lt, tI_sub (by omega) (by omega)]
  omega
set_option maxHeartbeats 4000000 in
set_option maxRecDepth 100000 in
theorem law_loop {p : Program} {l : Launch} {e : Env} {s : State} {m : MethodId} {args : Array Value} {below : List Frame} {meth : Method} {c : Code} {Q : State → Prop} {bs L : Nat} {xs : Nat → Int32} {D : va_G} {cI cQ cL : ClassId} {a b : Nat → Nat} {o : Nat} (hX : LX l p m c s args bs L xs a b o) (fin : ∀ (H1 : Heap) (locs1 : List Loc) (cells1 slots1 : Nat) (ls1 : Array Slot), va_S (A0 s) s.heap H1 locs1 → cells1 ≤ 601024 → slots1 ≤ 7293034 → lv_has ls1 9 [(0, .ref (bs))] → W p l e room_1 s m args below meth c H1 locs1 cells1 slots1 Q (F0 m 1565 ls1 [])) : ∀ (k n : Nat), n + k = 512 → ∀ (H : Heap) (locs : List Loc) (cells slots : Nat) (S N : bS) (w : Int64) (ls : Array Slot), Jn S N n → BW D cI cQ a S s H → MW D cI b N s H → OW D cL o w s H → va_S (A0 s) s.heap H locs → cells + 9 * k ≤ 601024 → slots + 64 * k ≤ 7293034 → lv_has ls 9 [(4, .int (nI (4 * n))), (0, .ref (bs)), (1, .ref (a 13)), (2, .ref (b 5)), (3, .ref (o))] → W p l e room_1 s m args below meth c H locs cells slots Q (F0 m 23 ls []) := by
  obtain ⟨hC, -, hbx, hbl, hL, -⟩ := id hX
  have hx := hC.1
  have hb := hC.2.1
  intro k
  induction k with
  | zero =>
    intro n hk H locs cells slots S N w ls hJn hB hN hO hS hf1 hf2 hl
    refine lv_iload hx hb dL_law_23 (lv_at hl 0 rfl) ?_
    refine lv_aload_n hx hb dL_law_25 rfl (lv_at hl 1 rfl) ?_
    refine va_slen hx hb hbx hbl (show ¬ s.heap.size ≤ bs by omega) hS dL_law_26 ?_
    refine lv_iconst (v := 4) hx hb dL_law_27 (by decide) ?_
    refine lv_isub hx hb dL_law_28 ?_
    refine lv_icmp_gt (tgt := 1565) hx hb dL_law_29 (by decide) (fun c1 => ?_) (fun c1 => ?_)
    · exact fin H locs cells slots ls hS (by omega) (by omega) (lv_sub hl [1] rfl)
    · exact absurd ((gt4 hL (by omega)).mpr (by omega)) c1
  | succ k ih =>
    intro n hk H locs cells slots S N w ls hJn hB hN hO hS hf1 hf2 hl
    refine lv_iload hx hb dL_law_23 (lv_at hl 0 rfl) ?_
    refine lv_aload_n hx hb dL_law_25 rfl (lv_at hl 1 rfl) ?_
    refine va_slen hx hb hbx hbl (show ¬ s.heap.size ≤ bs by omega) hS dL_law_26 ?_
    refine lv_iconst (v := 4) hx hb dL_law_27 (by decide) ?_
    refine lv_isub hx hb dL_law_28 ?_
    refine lv_icmp_gt (tgt := 1565) hx hb dL_law_29 (by decide) (fun c1 => ?_) (fun c1 => ?_)
    · exact fin H locs cells slots ls hS (by omega) (by omega) (lv_sub hl [1] rfl)
    have hn : 4 * n + 4 ≤ L := Nat.not_lt.mp fun z => c1 ((gt4 hL (by omega)).mpr z)
    have K : ∀ (S' N' : bS) (w' : Int64) (H1 : Heap) (locs1 : List Loc) (ls1 : Array Slot), Jn S' N' (n + 1) → BW D cI cQ a S' s H1 → MW D cI b N' s H1 → OW D cL o w' s H1 → va_S (A0 s) s.heap H1 locs1 → lv_has ls1 9 [(4, .int (nI (4 * n))), (0, .ref (bs)), (1, .ref (a 13)), (2, .ref (b 5)), (3, .ref (o))] → W p l e room_1 s m args below meth c H1 locs1 (cells + 9) (slots + 64) Q (F0 m 1559 ls1 []) := by
      intro S' N' w' H1 locs1 ls1 hJ1 hB1 hN1 hO1 hS1 hl1
      refine lv_iinc (v := nI (4 * (n + 1))) (lv' := [(4, .int (nI (4 * (n + 1)))), (0, .ref (bs)), (1, .ref (a 13)), (2, .ref (b 5)), (3, .ref (o))]) hx hb dL_law_1559 hl1 (k := 0) rfl (nI_add (4 * n) 4) (by decide) rfl (fun ls hl => ?_)
      refine lv_goto (tgt := 23) hx hb dL_law_1562 (by decide) ?_
      exact ih (n + 1) (by omega) H1 locs1 _ _ S' N' w' ls hJ1 hB1 hN1 hO1 hS1 (by omega) (by omega) hl
    have hf : cells + 9 ≤ 601024 ∧ slots + 64 ≤ 7293034 := ⟨by omega, by omega⟩
    refine lv_aload_n hx hb dL_law_32 rfl (lv_at hl 1 rfl) ?_
    refine lv_iload hx hb dL_law_33 (lv_at hl 0 rfl) ?_
    refine ldS hC hbx hbl hL hS (i := 4 * n) rfl (by omega) dL_law_35 ?_
    refine lv_bipush (v := 31) hx hb dL_law_36 (by decide) ?_
    refine lv_iand hx hb dL_law_38 ?_
    have hv := and31 (xs (4 * n))
    by_cases e0 : (xs (4 * n) &&& 31).toInt = 0
    · refine lv_tableIn (off := 133) (tgt := 172) hx hb dL_law_39 (by omega) (by omega) (by rw [e0]; rfl) (by decide) ?_
      exact st_list hX hn hB hN hO hS hf hl hJn K
    by_cases e1 : (xs (4 * n) &&& 31).toInt = 1
    · refine lv_tableIn (off := 213) (tgt := 252) hx hb dL_law_39 (by omega) (by omega) (by rw [e1]; rfl) (by decide) ?_
      exact st_addTrader hX hn hB hN hO hS hf hl hJn K
    by_cases e2 : (xs (4 * n) &&& 31).toInt = 2
    · refine lv_tableIn (off := 257) (tgt := 296) hx hb dL_law_39 (by omega) (by omega) (by rw [e2]; rfl) (by decide) ?_
      exact st_buy hX hn hB hN hO hS hf hl hJn K
    by_cases e3 : (xs (4 * n) &&& 31).toInt = 3
    · refine lv_tableIn (off := 337) (tgt := 376) hx hb dL_law_39 (by omega) (by omega) (by rw [e3]; rfl) (by decide) ?_
      exact st_sell hX hn hB hN hO hS hf hl hJn K
    by_cases e4 : (xs (4 * n) &&& 31).toInt = 4
    · refine lv_tableIn (off := 417) (tgt := 456) hx hb dL_law_39 (by omega) (by omega) (by rw [e4]; rfl) (by decide) ?_
      exact st_pass hX hn hB hN hO hS hf hl hJn K
    by_cases e5 : (xs (4 * n) &&& 31).toInt = 5
    · refine lv_tableIn (off := 473) (tgt := 512) hx hb dL_law_39 (by omega) (by omega) (by rw [e5]; rfl) (by decide) ?_
      exact st_second hX hn hB hN hO hS hf hl hJn K
    by_cases e6 : (xs (4 * n) &&& 31).toInt = 6
    · refine lv_tableIn (off := 486) (tgt := 525) hx hb dL_law_39 (by omega) (by omega) (by rw [e6]; rfl) (by decide) ?_
      exact st_towers hX hn hB hN hO hS hf hl hJn K
    by_cases e7 : (xs (4 * n) &&& 31).toInt = 7
    · refine lv_tableIn (off := 499) (tgt := 538) hx hb dL_law_39 (by omega) (by omega) (by rw [e7]; rfl) (by decide) ?_
      exact st_silenceOf hX hn hB hN hO hS hf hl hJn K
    by_cases e8 : (xs (4 * n) &&& 31).toInt = 8
    · refine lv_tableIn (off := 555) (tgt := 594) hx hb dL_law_39 (by omega) (by omega) (by rw [e8]; rfl) (by decide) ?_
      exact st_dovesOn hX hn hB hN hO hS hf hl hJn K
    by_cases e9 : (xs (4 * n) &&& 31).toInt = 9
    · refine lv_tableIn (off := 611) (tgt := 650) hx hb dL_law_39 (by omega) (by omega) (by rw [e9]; rfl) (by decide) ?_
      exact st_priceOf hX hn hB hN hO hS hf hl hJn K
    by_cases e10 : (xs (4 * n) &&& 31).toInt = 10
    · refine lv_tableIn (off := 667) (tgt := 706) hx hb dL_law_39 (by omega) (by omega) (by rw [e10]; rfl) (by decide) ?_
      exact st_secondsUntilStroke hX hn hB hN hO hS hf hl hJn K
    by_cases e11 : (xs (4 * n) &&& 31).toInt = 11
    · refine lv_tableIn (off := 723) (tgt := 762) hx hb dL_law_39 (by omega) (by omega) (by rw [e11]; rfl) (by decide) ?_
      exact st_strokesOf hX hn hB hN hO hS hf hl hJn K
    by_cases e12 : (xs (4 * n) &&& 31).toInt = 12
    · refine lv_tableIn (off := 779) (tgt := 818) hx hb dL_law_39 (by omega) (by omega) (by rw [e12]; rfl) (by decide) ?_
      exact st_openSeconds hX hn hB hN hO hS hf hl hJn K
    by_cases e13 : (xs (4 * n) &&& 31).toInt = 13
    · refine lv_tableIn (off := 835) (tgt := 874) hx hb dL_law_39 (by omega) (by omega) (by rw [e13]; rfl) (by decide) ?_
      exact st_dearest hX hn hB hN hO hS hf hl hJn K
    by_cases e14 : (xs (4 * n) &&& 31).toInt = 14
    · refine lv_tableIn (off := 848) (tgt := 887) hx hb dL_law_39 (by omega) (by omega) (by rw [e14]; rfl) (by decide) ?_
      exact st_nextToStrike hX hn hB hN hO hS hf hl hJn K
    by_cases e15 : (xs (4 * n) &&& 31).toInt = 15
    · refine lv_tableIn (off := 861) (tgt := 900) hx hb dL_law_39 (by omega) (by omega) (by rw [e15]; rfl) (by decide) ?_
      exact st_traders hX hn hB hN hO hS hf hl hJn K
    by_cases e16 : (xs (4 * n) &&& 31).toInt = 16
    · refine lv_tableIn (off := 874) (tgt := 913) hx hb dL_law_39 (by omega) (by omega) (by rw [e16]; rfl) (by decide) ?_
      exact st_purseOf hX hn hB hN hO hS hf hl hJn K
    by_cases e17 : (xs (4 * n) &&& 31).toInt = 17
    · refine lv_tableIn (off := 930) (tgt := 969) hx hb dL_law_39 (by omega) (by omega) (by rw [e17]; rfl) (by decide) ?_
      exact st_holds hX hn hB hN hO hS hf hl hJn K
    by_cases e18 : (xs (4 * n) &&& 31).toInt = 18
    · refine lv_tableIn (off := 998) (tgt := 1037) hx hb dL_law_39 (by omega) (by omega) (by rw [e18]; rfl) (by decide) ?_
      exact st_worthOf hX hn hB hN hO hS hf hl hJn K
    by_cases e19 : (xs (4 * n) &&& 31).toInt = 19
    · refine lv_tableIn (off := 1054) (tgt := 1093) hx hb dL_law_39 (by omega) (by omega) (by rw [e19]; rfl) (by decide) ?_
      exact st_richest hX hn hB hN hO hS hf hl hJn K
    by_cases e20 : (xs (4 * n) &&& 31).toInt = 20
    · refine lv_tableIn (off := 1067) (tgt := 1106) hx hb dL_law_39 (by omega) (by omega) (by rw [e20]; rfl) (by decide) ?_
      exact st_shortsOf hX hn hB hN hO hS hf hl hJn K
    by_cases e21 : (xs (4 * n) &&& 31).toInt = 21
    · refine lv_tableIn (off := 1123) (tgt := 1162) hx hb dL_law_39 (by omega) (by omega) (by rw [e21]; rfl) (by decide) ?_
      exact st_inDebt hX hn hB hN hO hS hf hl hJn K
    by_cases e22 : (xs (4 * n) &&& 31).toInt = 22
    · refine lv_tableIn (off := 1136) (tgt := 1175) hx hb dL_law_39 (by omega) (by omega) (by rw [e22]; rfl) (by decide) ?_
      exact st_closingPrice hX hn hB hN hO hS hf hl hJn K
    by_cases e23 : (xs (4 * n) &&& 31).toInt = 23
    · refine lv_tableIn (off := 1192) (tgt := 1231) hx hb dL_law_39 (by omega) (by omega) (by rw [e23]; rfl) (by decide) ?_
      exact st_priceIn hX hn hB hN hO hS hf hl hJn K
    by_cases e24 : (xs (4 * n) &&& 31).toInt = 24
    · refine lv_tableIn (off := 1260) (tgt := 1299) hx hb dL_law_39 (by omega) (by omega) (by rw [e24]; rfl) (by decide) ?_
      exact st_worthIn hX hn hB hN hO hS hf hl hJn K
    by_cases e25 : (xs (4 * n) &&& 31).toInt = 25
    · refine lv_tableIn (off := 1328) (tgt := 1367) hx hb dL_law_39 (by omega) (by omega) (by rw [e25]; rfl) (by decide) ?_
      exact st_bestToBuy hX hn hB hN hO hS hf hl hJn K
    by_cases e26 : (xs (4 * n) &&& 31).toInt = 26
    · refine lv_tableIn (off := 1341) (tgt := 1380) hx hb dL_law_39 (by omega) (by omega) (by rw [e26]; rfl) (by decide) ?_
      exact st_bestToSell hX hn hB hN hO hS hf hl hJn K
    by_cases e27 : (xs (4 * n) &&& 31).toInt = 27
    · refine lv_tableIn (off := 1409) (tgt := 1448) hx hb dL_law_39 (by omega) (by omega) (by rw [e27]; rfl) (by decide) ?_
      exact st_secondsUntilDebt hX hn hB hN hO hS hf hl hJn K
    by_cases e28 : (xs (4 * n) &&& 31).toInt = 28
    · refine lv_tableIn (off := 1465) (tgt := 1504) hx hb dL_law_39 (by omega) (by omega) (by rw [e28]; rfl) (by decide) ?_
      exact st_meanPrice hX hn hB hN hO hS hf hl hJn K
    by_cases e29 : (xs (4 * n) &&& 31).toInt = 29
    · refine lv_tableIn (off := 1506) (tgt := 1545) hx hb dL_law_39 (by omega) (by omega) (by rw [e29]; rfl) (by decide) ?_
      exact st_digest hX hn hB hN hO hS hf hl hJn K
    refine lv_tableOut (tgt := 1559) hx hb dL_law_39 (Or.inr (by omega)) (by decide) ?_
    obtain ⟨T, R, sec, B, wt, pt, bt, u, q, hJ, hs1, hB1, hB2⟩ := hJn
    exact W.widen (k := cells + 9) (n := slots + 64) (by omega) (by omega) (K S N w H locs ls ⟨T, R, sec, B, wt, pt, bt, u, q, hJ, by omega, by omega, by omega⟩ hB hN hO hS hl)

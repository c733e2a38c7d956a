/-! ===== each call of the script: both answer the same, and what holds goes on to hold ===== -/
def Jn (S N : bS) (n : Nat) : Prop := ∃ (T R sec B : Nat) (w p bt u q : Nat → Nat), Jc S N T R sec B w p bt u q ∧ sec ≤ 60 * n ∧ 100 ≤ B ∧ B ≤ 100 + 777600 * n
theorem isI_bad {x : Int32} {lo hi : Nat} (hh : hi < 2 ^ 30) (hlo : lo < 2 ^ 30) (h : ¬ ∃ k : Nat, lo ≤ k ∧ k ≤ hi ∧ x = nI k) : isI x (nI lo) (nI hi) = 0 := by
  unfold isI
  by_cases c : x < nI lo
  · rw [if_pos c]
  · rw [if_neg c]
    by_cases c2 : nI hi < x
    · rw [if_pos c2]
    · exact (bad_rng hh hlo h c (Int32.not_lt.mp c2)).elim
theorem isI_badT {x : Int32} {T : Nat} (hh : T < 2 ^ 30) (h : ¬ ∃ t : Nat, t < T ∧ x = nI t) : isI x 0 (nI T - 1) = 0 := by
  unfold isI
  by_cases c : x < 0
  · rw [if_pos c]
  · rw [if_neg c]
    by_cases c2 : x < nI T
    · exact (bad_lt hh h c c2).elim
    · rw [if_pos]
      rw [Int32.lt_iff_toInt_lt] at c2 ⊢
      have e1 := nI_toInt (n := T) (by omega)
      have e2 : (nI T - 1).toInt = (T : Int) - 1 := by
        rw [tI_sub (by rw [e1]; have : (1 : Int32).toInt = 1 := by decide
                       omega) (by rw [e1]; have : (1 : Int32).toInt = 1 := by decide
                                  omega), e1]
        have : (1 : Int32).toInt = 1 := by decide
        omega
      omega
theorem mBn_five {N : bS} {T R r t far : Nat} : ∀ k : Nat, mBn N T R r t far k 5 0 = N 5 0
  | 0 => rfl
  | k + 1 => by
    show mPa (mSo (mBn N T R r t far k) R r t k) T R far 5 0 = _
    rw [mPa_row _ T R 0 (by decide) far, mSo_row 5 0 (by decide)]
    exact mBn_five k
set_option maxHeartbeats 4000000 in
set_option maxRecDepth 100000 in
theorem st_silenceOf {p : Program} {l : Launch} {e : Env} {s : State} {m : MethodId} {args : Array Value} {below : List Frame} {meth : Method} {c : Code} {H : Heap} {locs : List Loc} {cells slots : Nat} {Q : State → Prop} {ls : Array Slot} {bs L : Nat} {xs : Nat → Int32} {D : va_G} {cI cQ cL : ClassId} {a b : Nat → Nat} {o : Nat} {S N : bS} {w : Int64} {n : Nat} (hX : LX l p m c s args bs L xs a b o) (hn : 4 * n + 4 ≤ L) (hB : BW D cI cQ a S s H) (hN : MW D cI b N s H) (hO : OW D cL o w s H) (hS : va_S (A0 s) s.heap H locs) (hf : cells + 9 ≤ 601024 ∧ slots + 64 ≤ 7293034) (hl : lv_has ls 9 [(4, .int (nI (4 * n))), (0, .ref (bs)), (1, .ref (a 13)), (2, .ref (b 5)), (3, .ref (o))]) (hJn : Jn S N n) (kx : ∀ (S' N' : bS) (w' : Int64) (H1 : Heap) (locs1 : List Loc) (ls1 : Array Slot), Jn S' N' (n + 1) → BW D cI cQ a S' s H1 → MW D cI b N' s H1 → OW D cL o w' s H1 → va_S (A0 s) s.heap H1 locs1 → lv_has ls1 9 [(4, .int (nI (4 * n))), (0, .ref (bs)), (1, .ref (a 13)), (2, .ref (b 5)), (3, .ref (o))] → W p l e room_1 s m args below meth c H1 locs1 (cells + 9) (slots + 64) Q (F0 m 1559 ls1 [])) : W p l e room_1 s m args below meth c H locs cells slots Q (F0 m 538 ls []) := by
  obtain ⟨T, R, sec, B, wt, pt, bt, u, q, hJ, hs1, hB1, hB2⟩ := hJn
  obtain ⟨-, hl9, -, -, hL, -, -, -, -, -, -, hao, -⟩ := id hX
  have hI := hJ.1
  have hM := hJ.2.2.2.1
  have hP := hJ.2.2.2.2.1.mP
  have hU := hJ.2.2.2.2.1.mU
  have hJ0 := hJ.re (RE.five N 0)
  have hJk := hJ.re (RK_kp N).1
  have h8 := hI.2.2.1
  have h6 := hI.2.2.2
  by_cases hb : ∃ t : Nat, t < T ∧ xs (4 * n + 1) = nI t
  rotate_left
  · have hJ9 := hJ.re (RE.five2 N 0 1)
    exact lc_silenceOf hX hn hB hN hO hS hf hl (r := 0) (rm := ({ frames := 2, cells := 0, slots := 0, locals := 43 } : Room)) (k9 := 1) (S' := S) (N' := (up2 (up2 N 5 0 0) 5 0 1)) (w' := w) (by exact h_silenceOf_1 l hao (t_X0_silenceOf_t l hl9 D cI cQ a S hI hb)) hJ9.2.2.2.1 (up2_eq _ _ _ _) (fun z => absurd z (by decide)) (by exact c_X1_silenceOf_f l D cI b N _ hM (isI_badT (by omega) hb)) ⟨rfl, rfl⟩ ⟨Nat.le_of_ble_eq_true rfl, Nat.le_of_ble_eq_true rfl⟩ (fun H1 locs1 ls1 => kx _ _ _ H1 locs1 ls1 ⟨T, R, sec, B, wt, pt, bt, u, q, hJ9, by omega, by omega, by omega⟩)
  obtain ⟨t, ht, e1⟩ := hb
  have hr := hJ.2.1.2.2.1 t (by omega)
  have hJ9 := hJ0
  exact lc_silenceOf hX hn hB hN hO hS hf hl (r := S 2 t) (rm := ({ frames := 2, cells := 0, slots := 0, locals := 43 } : Room)) (k9 := 0) (S' := S) (N' := (up2 N 5 0 0)) (w' := (S 2 t).toInt64) (by rw [e1]; exact h_silenceOf_ok l hao (c_X0_silenceOf l D cI cQ a S hI ht)) hJ9.2.2.2.1 (up2_eq _ _ _ _) (fun _ => rfl) (by rw [e1, hr]; exact c_X1_silenceOf_ok l D cI b N hM ht) ⟨rfl, rfl⟩ ⟨Nat.le_of_ble_eq_true rfl, Nat.le_of_ble_eq_true rfl⟩ (fun H1 locs1 ls1 => kx _ _ _ H1 locs1 ls1 ⟨T, R, sec, B, wt, pt, bt, u, q, hJ9, by omega, by omega, by omega⟩)
set_option maxHeartbeats 4000000 in
set_option maxRecDepth 100000 in
theorem st_dovesOn {p : Program} {l : Launch} {e : Env} {s : State} {m : MethodId} {args : Array Value} {below : List Frame} {meth : Method} {c : Code} {H : Heap} {locs : List Loc} {cells slots : Nat} {Q : State → Prop} {ls : Array Slot} {bs L : Nat} {xs : Nat → Int32} {D : va_G} {cI cQ cL : ClassId} {a b : Nat → Nat} {o : Nat} {S N : bS} {w : Int64} {n : Nat} (hX : LX l p m c s args bs L xs a b o) (hn : 4 * n + 4 ≤ L) (hB : BW D cI cQ a S s H) (hN : MW D cI b N s H) (hO : OW D cL o w s H) (hS : va_S (A0 s) s.heap H locs) (hf : cells + 9 ≤ 601024 ∧ slots + 64 ≤ 7293034) (hl : lv_has ls 9 [(4, .int (nI (4 * n))), (0, .ref (bs)), (1, .ref (a 13)), (2, .ref (b 5)), (3, .ref (o))]) (hJn : Jn S N n) (kx : ∀ (S' N' : bS) (w' : Int64) (H1 : Heap) (locs1 : List Loc) (ls1 : Array Slot), Jn S' N' (n + 1) → BW D cI cQ a S' s H1 → MW D cI b N' s H1 → OW D cL o w' s H1 → va_S (A0 s) s.heap H1 locs1 → lv_has ls1 9 [(4, .int (nI (4 * n))), (0, .ref (bs)), (1, .ref (a 13)), (2, .ref (b 5)), (3, .ref (o))] → W p l e room_1 s m args below meth c H1 locs1 (cells + 9) (slots + 64) Q (F0 m 1559 ls1 [])) : W p l e room_1 s m args below meth c H locs cells slots Q (F0 m 594 ls []) := by
  obtain ⟨T, R, sec, B, wt, pt, bt, u, q, hJ, hs1, hB1, hB2⟩ := hJn
  obtain ⟨-, hl9, -, -, hL, -, -, -, -, -, -, hao, -⟩ := id hX
  have hI := hJ.1
  have hM := hJ.2.2.2.1
  have hP := hJ.2.2.2.2.1.mP
  have hU := hJ.2.2.2.2.1.mU
  have hJ0 := hJ.re (RE.five N 0)
  have hJk := hJ.re (RK_kp N).1
  have h8 := hI.2.2.1
  have h6 := hI.2.2.2
  by_cases hb : ∃ t : Nat, t < T ∧ xs (4 * n + 1) = nI t
  rotate_left
  · have hJ9 := hJ.re (RE.five2 N 0 1)
    exact lc_dovesOn hX hn hB hN hO hS hf hl (r := 0) (rm := ({ frames := 2, cells := 0, slots := 0, locals := 47 } : Room)) (k9 := 1) (S' := S) (N' := (up2 (up2 N 5 0 0) 5 0 1)) (w' := w) (by exact h_dovesOn_1 l hao (t_X0_dovesOn_t l hl9 D cI cQ a S hI hb)) hJ9.2.2.2.1 (up2_eq _ _ _ _) (fun z => absurd z (by decide)) (by exact c_X1_dovesOn_f l D cI b N _ hM (isI_badT (by omega) hb)) ⟨rfl, rfl⟩ ⟨Nat.le_of_ble_eq_true rfl, Nat.le_of_ble_eq_true rfl⟩ (fun H1 locs1 ls1 => kx _ _ _ H1 locs1 ls1 ⟨T, R, sec, B, wt, pt, bt, u, q, hJ9, by omega, by omega, by omega⟩)
  obtain ⟨t, ht, e1⟩ := hb
  have hr := hJ.dv ht
  have hJ9 := hJ0
  exact lc_dovesOn hX hn hB hN hO hS hf hl (r := bDv S R t) (rm := ({ frames := 2, cells := 0, slots := 0, locals := 47 } : Room)) (k9 := 0) (S' := S) (N' := (up2 N 5 0 0)) (w' := (bDv S R t).toInt64) (by rw [e1]; exact h_dovesOn_ok l hao (c_X0_dovesOn l D cI cQ a S hI ht)) hJ9.2.2.2.1 (up2_eq _ _ _ _) (fun _ => rfl) (by rw [e1, hr]; exact c_X1_dovesOn_ok l D cI b N hM ht) ⟨rfl, rfl⟩ ⟨Nat.le_of_ble_eq_true rfl, Nat.le_of_ble_eq_true rfl⟩ (fun H1 locs1 ls1 => kx _ _ _ H1 locs1 ls1 ⟨T, R, sec, B, wt, pt, bt, u, q, hJ9, by omega, by omega, by omega⟩)
set_option maxHeartbeats 4000000 in
set_option maxRecDepth 100000 in
theorem st_priceOf {p : Program} {l : Launch} {e : Env} {s : State} {m : MethodId} {args : Array Value} {below : List Frame} {meth : Method} {c : Code} {H : Heap} {locs : List Loc} {cells slots : Nat} {Q : State → Prop} {ls : Array Slot} {bs L : Nat} {xs : Nat → Int32} {D : va_G} {cI cQ cL : ClassId} {a b : Nat → Nat} {o : Nat} {S N : bS} {w : Int64} {n : Nat} (hX : LX l p m c s args bs L xs a b o) (hn : 4 * n + 4 ≤ L) (hB : BW D cI cQ a S s H) (hN : MW D cI b N s H) (hO : OW D cL o w s H) (hS : va_S (A0 s) s.heap H locs) (hf : cells + 9 ≤ 601024 ∧ slots + 64 ≤ 7293034) (hl : lv_has ls 9 [(4, .int (nI (4 * n))), (0, .ref (bs)), (1, .ref (a 13)), (2, .ref (b 5)), (3, .ref (o))]) (hJn : Jn S N n) (kx : ∀ (S' N' : bS) (w' : Int64) (H1 : Heap) (locs1 : List Loc) (ls1 : Array Slot), Jn S' N' (n + 1) → BW D cI cQ a S' s H1 → MW D cI b N' s H1 → OW D cL o w' s H1 → va_S (A0 s) s.heap H1 locs1 → lv_has ls1 9 [(4, .int (nI (4 * n))), (0, .ref (bs)), (1, .ref (a 13)), (2, .ref (b 5)), (3, .ref (o))] → W p l e room_1 s m args below meth c H1 locs1 (cells + 9) (slots + 64) Q (F0 m 1559 ls1 [])) : W p l e room_1 s m args below meth c H locs cells slots Q (F0 m 650 ls []) := by
  obtain ⟨T, R, sec, B, wt, pt, bt, u, q, hJ, hs1, hB1, hB2⟩ := hJn
  obtain ⟨-, hl9, -, -, hL, -, -, -, -, -, -, hao, -⟩ := id hX
  have hI := hJ.1
  have hM := hJ.2.2.2.1
  have hP := hJ.2.2.2.2.1.mP
  have hU := hJ.2.2.2.2.1.mU
  have hJ0 := hJ.re (RE.five N 0)
  have hJk := hJ.re (RK_kp N).1
  have h8 := hI.2.2.1
  have h6 := hI.2.2.2
  by_cases hb : ∃ t : Nat, t < T ∧ xs (4 * n + 1) = nI t
  rotate_left
  · have hJ9 := hJ.re (RE.five2 N 0 1)
    exact lc_priceOf hX hn hB hN hO hS hf hl (r := 0) (rm := ({ frames := 4, cells := 0, slots := 0, locals := 90 } : Room)) (k9 := 1) (S' := S) (N' := (up2 (up2 N 5 0 0) 5 0 1)) (w' := w) (by exact h_priceOf_1 l hao (t_X0_priceOf_t l hl9 D cI cQ a S hI hb)) hJ9.2.2.2.1 (up2_eq _ _ _ _) (fun z => absurd z (by decide)) (by exact c_X1_priceOf_f l D cI b N _ hM (isI_badT (by omega) hb)) ⟨rfl, rfl⟩ ⟨Nat.le_of_ble_eq_true rfl, Nat.le_of_ble_eq_true rfl⟩ (fun H1 locs1 ls1 => kx _ _ _ H1 locs1 ls1 ⟨T, R, sec, B, wt, pt, bt, u, q, hJ9, by omega, by omega, by omega⟩)
  obtain ⟨t, ht, e1⟩ := hb
  have hr := hJ.prc ht
  have hJ9 := hJ0
  exact lc_priceOf hX hn hB hN hO hS hf hl (r := bPr S R t) (rm := ({ frames := 4, cells := 0, slots := 0, locals := 90 } : Room)) (k9 := 0) (S' := S) (N' := (up2 N 5 0 0)) (w' := (bPr S R t).toInt64) (by rw [e1]; exact h_priceOf_ok l hao (c_X0_priceOf l D cI cQ a S hI ht)) hJ9.2.2.2.1 (up2_eq _ _ _ _) (fun _ => rfl) (by rw [e1, hr]; exact c_X1_priceOf_ok l D cI b N hM ht) ⟨rfl, rfl⟩ ⟨Nat.le_of_ble_eq_true rfl, Nat.le_of_ble_eq_true rfl⟩ (fun H1 locs1 ls1 => kx _ _ _ H1 locs1 ls1 ⟨T, R, sec, B, wt, pt, bt, u, q, hJ9, by omega, by omega, by omega⟩)
set_option maxHeartbeats 4000000 in
set_option maxRecDepth 100000 in
theorem st_secondsUntilStroke {p : Program} {l : Launch} {e : Env} {s : State} {m : MethodId} {args : Array Value} {below : List Frame} {meth : Method} {c : Code} {H : Heap} {locs : List Loc} {cells slots : Nat} {Q : State → Prop} {ls : Array Slot} {bs L : Nat} {xs : Nat → Int32} {D : va_G} {cI cQ cL : ClassId} {a b : Nat → Nat} {o : Nat} {S N : bS} {w : Int64} {n : Nat} (hX : LX l p m c s args bs L xs a b o) (hn : 4 * n + 4 ≤ L) (hB : BW D cI cQ a S s H) (hN : MW D cI b N s H) (hO : OW D cL o w s H) (hS : va_S (A0 s) s.heap H locs) (hf : cells + 9 ≤ 601024 ∧ slots + 64 ≤ 7293034) (hl : lv_has ls 9 [(4, .int (nI (4 * n))), (0, .ref (bs)), (1, .ref (a 13)), (2, .ref (b 5)), (3, .ref (o))]) (hJn : Jn S N n) (kx : ∀ (S' N' : bS) (w' : Int64) (H1 : Heap) (locs1 : List Loc) (ls1 : Array Slot), Jn S' N' (n + 1) → BW D cI cQ a S' s H1 → MW D cI b N' s H1 → OW D cL o w' s H1 → va_S (A0 s) s.heap H1 locs1 → lv_has ls1 9 [(4, .int (nI (4 * n))), (0, .ref (bs)), (1, .ref (a 13)), (2, .ref (b 5)), (3, .ref (o))] → W p l e room_1 s m args below meth c H1 locs1 (cells + 9) (slots + 64) Q (F0 m 1559 ls1 [])) : W p l e room_1 s m args below meth c H locs cells slots Q (F0 m 706 ls []) := by
  obtain ⟨T, R, sec, B, wt, pt, bt, u, q, hJ, hs1, hB1, hB2⟩ := hJn
  obtain ⟨-, hl9, -, -, hL, -, -, -, -, -, -, hao, -⟩ := id hX
  have hI := hJ.1
  have hM := hJ.2.2.2.1
  have hP := hJ.2.2.2.2.1.mP
  have hU := hJ.2.2.2.2.1.mU
  have hJ0 := hJ.re (RE.five N 0)
  have hJk := hJ.re (RK_kp N).1
  have h8 := hI.2.2.1
  have h6 := hI.2.2.2
  by_cases hb : ∃ t : Nat, t < T ∧ xs (4 * n + 1) = nI t
  rotate_left
  · have hJ9 := hJ.re (RE.five2 N 0 1)
    exact lc_secondsUntilStroke hX hn hB hN hO hS hf hl (r := 0) (rm := ({ frames := 2, cells := 0, slots := 0, locals := 43 } : Room)) (k9 := 1) (S' := S) (N' := (up2 (up2 N 5 0 0) 5 0 1)) (w' := w) (by exact h_secondsUntilStroke_1 l hao (t_X0_secondsUntilStroke_t l hl9 D cI cQ a S hI hb)) hJ9.2.2.2.1 (up2_eq _ _ _ _) (fun z => absurd z (by decide)) (by exact c_X1_secondsUntilStroke_f l D cI b N _ hM (isI_badT (by omega) hb)) ⟨rfl, rfl⟩ ⟨Nat.le_of_ble_eq_true rfl, Nat.le_of_ble_eq_true rfl⟩ (fun H1 locs1 ls1 => kx _ _ _ H1 locs1 ls1 ⟨T, R, sec, B, wt, pt, bt, u, q, hJ9, by omega, by omega, by omega⟩)
  obtain ⟨t, ht, e1⟩ := hb
  have hr := (hJ.2.2.1 t ht).2.2
  have hJ9 := hJ0
  exact lc_secondsUntilStroke hX hn hB hN hO hS hf hl (r := S 3 t) (rm := ({ frames := 2, cells := 0, slots := 0, locals := 43 } : Room)) (k9 := 0) (S' := S) (N' := (up2 N 5 0 0)) (w' := (S 3 t).toInt64) (by rw [e1]; exact h_secondsUntilStroke_ok l hao (c_X0_secondsUntilStroke l D cI cQ a S hI ht)) hJ9.2.2.2.1 (up2_eq _ _ _ _) (fun _ => rfl) (by rw [e1, hr]; exact c_X1_secondsUntilStroke_ok l D cI b N hM ht hU hP) ⟨rfl, rfl⟩ ⟨Nat.le_of_ble_eq_true rfl, Nat.le_of_ble_eq_true rfl⟩ (fun H1 locs1 ls1 => kx _ _ _ H1 locs1 ls1 ⟨T, R, sec, B, wt, pt, bt, u, q, hJ9, by omega, by omega, by omega⟩)
set_option maxHeartbeats 4000000 in
set_option maxRecDepth 100000 in
theorem st_strokesOf {p : Program} {l : Launch} {e : Env} {s : State} {m : MethodId} {args : Array Value} {below : List Frame} {meth : Method} {c : Code} {H : Heap} {locs : List Loc} {cells slots : Nat} {Q : State → Prop} {ls : Array Slot} {bs L : Nat} {xs : Nat → Int32} {D : va_G} {cI cQ cL : ClassId} {a b : Nat → Nat} {o : Nat} {S N : bS} {w : Int64} {n : Nat} (hX : LX l p m c s args bs L xs a b o) (hn : 4 * n + 4 ≤ L) (hB : BW D cI cQ a S s H) (hN : MW D cI b N s H) (hO : OW D cL o w s H) (hS : va_S (A0 s) s.heap H locs) (hf : cells + 9 ≤ 601024 ∧ slots + 64 ≤ 7293034) (hl : lv_has ls 9 [(4, .int (nI (4 * n))), (0, .ref (bs)), (1, .ref (a 13)), (2, .ref (b 5)), (3, .ref (o))]) (hJn : Jn S N n) (kx : ∀ (S' N' : bS) (w' : Int64) (H1 : Heap) (locs1 : List Loc) (ls1 : Array Slot), Jn S' N' (n + 1) → BW D cI cQ a S' s H1 → MW D cI b N' s H1 → OW D cL o w' s H1 → va_S (A0 s) s.heap H1 locs1 → lv_has ls1 9 [(4, .int (nI (4 * n))), (0, .ref (bs)), (1, .ref (a 13)), (2, .ref (b 5)), (3, .ref (o))] → W p l e room_1 s m args below meth c H1 locs1 (cells + 9) (slots + 64) Q (F0 m 1559 ls1 [])) : W p l e room_1 s m args below meth c H locs cells slots Q (F0 m 762 ls []) := by
  obtain ⟨T, R, sec, B, wt, pt, bt, u, q, hJ, hs1, hB1, hB2⟩ := hJn
  obtain ⟨-, hl9, -, -, hL, -, -, -, -, -, -, hao, -⟩ := id hX
  have hI := hJ.1
  have hM := hJ.2.2.2.1
  have hP := hJ.2.2.2.2.1.mP
  have hU := hJ.2.2.2.2.1.mU
  have hJ0 := hJ.re (RE.five N 0)
  have hJk := hJ.re (RK_kp N).1
  have h8 := hI.2.2.1
  have h6 := hI.2.2.2
  by_cases hb : ∃ t : Nat, t < T ∧ xs (4 * n + 1) = nI t
  rotate_left
  · have hJ9 := hJ.re (RE.five2 N 0 1)
    exact lc_strokesOf hX hn hB hN hO hS hf hl (r := 0) (rm := ({ frames := 2, cells := 0, slots := 0, locals := 43 } : Room)) (k9 := 1) (S' := S) (N' := (up2 (up2 N 5 0 0) 5 0 1)) (w' := w) (by exact h_strokesOf_1 l hao (t_X0_strokesOf_t l hl9 D cI cQ a S hI hb)) hJ9.2.2.2.1 (up2_eq _ _ _ _) (fun z => absurd z (by decide)) (by exact c_X1_strokesOf_f l D cI b N _ hM (isI_badT (by omega) hb)) ⟨rfl, rfl⟩ ⟨Nat.le_of_ble_eq_true rfl, Nat.le_of_ble_eq_true rfl⟩ (fun H1 locs1 ls1 => kx _ _ _ H1 locs1 ls1 ⟨T, R, sec, B, wt, pt, bt, u, q, hJ9, by omega, by omega, by omega⟩)
  obtain ⟨t, ht, e1⟩ := hb
  have hr := hJ.2.1.2.2.2.1 t (by omega)
  have hJ9 := hJ0
  exact lc_strokesOf hX hn hB hN hO hS hf hl (r := S 4 t) (rm := ({ frames := 2, cells := 0, slots := 0, locals := 43 } : Room)) (k9 := 0) (S' := S) (N' := (up2 N 5 0 0)) (w' := (S 4 t).toInt64) (by rw [e1]; exact h_strokesOf_ok l hao (c_X0_strokesOf l D cI cQ a S hI ht)) hJ9.2.2.2.1 (up2_eq _ _ _ _) (fun _ => rfl) (by rw [e1, hr]; exact c_X1_strokesOf_ok l D cI b N hM ht) ⟨rfl, rfl⟩ ⟨Nat.le_of_ble_eq_true rfl, Nat.le_of_ble_eq_true rfl⟩ (fun H1 locs1 ls1 => kx _ _ _ H1 locs1 ls1 ⟨T, R, sec, B, wt, pt, bt, u, q, hJ9, by omega, by omega, by omega⟩)
set_option maxHeartbeats 4000000 in
set_option maxRecDepth 100000 in
theorem st_openSeconds {p : Program} {l : Launch} {e : Env} {s : State} {m : MethodId} {args : Array Value} {below : List Frame} {meth : Method} {c : Code} {H : Heap} {locs : List Loc} {cells slots : Nat} {Q : State → Prop} {ls : Array Slot} {bs L : Nat} {xs : Nat → Int32} {D : va_G} {cI cQ cL : ClassId} {a b : Nat → Nat} {o : Nat} {S N : bS} {w : Int64} {n : Nat} (hX : LX l p m c s args bs L xs a b o) (hn : 4 * n + 4 ≤ L) (hB : BW D cI cQ a S s H) (hN : MW D cI b N s H) (hO : OW D cL o w s H) (hS : va_S (A0 s) s.heap H locs) (hf : cells + 9 ≤ 601024 ∧ slots + 64 ≤ 7293034) (hl : lv_has ls 9 [(4, .int (nI (4 * n))), (0, .ref (bs)), (1, .ref (a 13)), (2, .ref (b 5)), (3, .ref (o))]) (hJn : Jn S N n) (kx : ∀ (S' N' : bS) (w' : Int64) (H1 : Heap) (locs1 : List Loc) (ls1 : Array Slot), Jn S' N' (n + 1) → BW D cI cQ a S' s H1 → MW D cI b N' s H1 → OW D cL o w' s H1 → va_S (A0 s) s.heap H1 locs1 → lv_has ls1 9 [(4, .int (nI (4 * n))), (0, .ref (bs)), (1, .ref (a 13)), (2, .ref (b 5)), (3, .ref (o))] → W p l e room_1 s m args below meth c H1 locs1 (cells + 9) (slots + 64) Q (F0 m 1559 ls1 [])) : W p l e room_1 s m args below meth c H locs cells slots Q (F0 m 818 ls []) := by
  obtain ⟨T, R, sec, B, wt, pt, bt, u, q, hJ, hs1, hB1, hB2⟩ := hJn
  obtain ⟨-, hl9, -, -, hL, -, -, -, -, -, -, hao, -⟩ := id hX
  have hI := hJ.1
  have hM := hJ.2.2.2.1
  have hP := hJ.2.2.2.2.1.mP
  have hU := hJ.2.2.2.2.1.mU
  have hJ0 := hJ.re (RE.five N 0)
  have hJk := hJ.re (RK_kp N).1
  have h8 := hI.2.2.1
  have h6 := hI.2.2.2
  by_cases hb : ∃ t : Nat, t < T ∧ xs (4 * n + 1) = nI t
  rotate_left
  · have hJ9 := hJ.re (RE.five2 N 0 1)
    exact lc_openSeconds hX hn hB hN hO hS hf hl (r := 0) (rm := ({ frames := 2, cells := 0, slots := 0, locals := 44 } : Room)) (k9 := 1) (S' := S) (N' := (up2 (up2 N 5 0 0) 5 0 1)) (w' := w) (by exact h_openSeconds_1 l hao (t_X0_openSeconds_t l hl9 D cI cQ a S hI hb)) hJ9.2.2.2.1 (up2_eq _ _ _ _) (fun z => absurd z (by decide)) (by exact c_X1_openSeconds_f l D cI b N _ hM (isI_badT (by omega) hb)) ⟨rfl, rfl⟩ ⟨Nat.le_of_ble_eq_true rfl, Nat.le_of_ble_eq_true rfl⟩ (fun H1 locs1 ls1 => kx _ _ _ H1 locs1 ls1 ⟨T, R, sec, B, wt, pt, bt, u, q, hJ9, by omega, by omega, by omega⟩)
  obtain ⟨t, ht, e1⟩ := hb
  have hr := hJ.op ht
  have hJ9 := hJ0
  exact lc_openSeconds hX hn hB hN hO hS hf hl (r := bOp S R t) (rm := ({ frames := 2, cells := 0, slots := 0, locals := 44 } : Room)) (k9 := 0) (S' := S) (N' := (up2 N 5 0 0)) (w' := (bOp S R t).toInt64) (by rw [e1]; exact h_openSeconds_ok l hao (c_X0_openSeconds l D cI cQ a S hI ht)) hJ9.2.2.2.1 (up2_eq _ _ _ _) (fun _ => rfl) (by rw [e1, hr]; exact c_X1_openSeconds_ok l D cI b N hM ht) ⟨rfl, rfl⟩ ⟨Nat.le_of_ble_eq_true rfl, Nat.le_of_ble_eq_true rfl⟩ (fun H1 locs1 ls1 => kx _ _ _ H1 locs1 ls1 ⟨T, R, sec, B, wt, pt, bt, u, q, hJ9, by omega, by omega, by omega⟩)
set_option maxHeartbeats 4000000 in
set_option maxRecDepth 100000 in
theorem st_closingPrice {p : Program} {l : Launch} {e : Env} {s : State} {m : MethodId} {args : Array Value} {below : List Frame} {meth : Method} {c : Code} {H : Heap} {locs : List Loc} {cells slots : Nat} {Q : State → Prop} {ls : Array Slot} {bs L : Nat} {xs : Nat → Int32} {D : va_G} {cI cQ cL : ClassId} {a b : Nat → Nat} {o : Nat} {S N : bS} {w : Int64} {n : Nat} (hX : LX l p m c s args bs L xs a b o) (hn : 4 * n + 4 ≤ L) (hB : BW D cI cQ a S s H) (hN : MW D cI b N s H) (hO : OW D cL o w s H) (hS : va_S (A0 s) s.heap H locs) (hf : cells + 9 ≤ 601024 ∧ slots + 64 ≤ 7293034) (hl : lv_has ls 9 [(4, .int (nI (4 * n))), (0, .ref (bs)), (1, .ref (a 13)), (2, .ref (b 5)), (3, .ref (o))]) (hJn : Jn S N n) (kx : ∀ (S' N' : bS) (w' : Int64) (H1 : Heap) (locs1 : List Loc) (ls1 : Array Slot), Jn S' N' (n + 1) → BW D cI cQ a S' s H1 → MW D cI b N' s H1 → OW D cL o w' s H1 → va_S (A0 s) s.heap H1 locs1 → lv_has ls1 9 [(4, .int (nI (4 * n))), (0, .ref (bs)), (1, .ref (a 13)), (2, .ref (b 5)), (3, .ref (o))] → W p l e room_1 s m args below meth c H1 locs1 (cells + 9) (slots + 64) Q (F0 m 1559 ls1 [])) : W p l e room_1 s m args below meth c H locs cells slots Q (F0 m 1175 ls []) := by
  obtain ⟨T, R, sec, B, wt, pt, bt, u, q, hJ, hs1, hB1, hB2⟩ := hJn
  obtain ⟨-, hl9, -, -, hL, -, -, -, -, -, -, hao, -⟩ := id hX
  have hI := hJ.1
  have hM := hJ.2.2.2.1
  have hP := hJ.2.2.2.2.1.mP
  have hU := hJ.2.2.2.2.1.mU
  have hJ0 := hJ.re (RE.five N 0)
  have hJk := hJ.re (RK_kp N).1
  have h8 := hI.2.2.1
  have h6 := hI.2.2.2
  by_cases hb : ∃ t : Nat, t < T ∧ xs (4 * n + 1) = nI t
  rotate_left
  · have hJ9 := hJ.re (RE.five2 N 0 1)
    exact lc_closingPrice hX hn hB hN hO hS hf hl (r := 0) (rm := ({ frames := 4, cells := 0, slots := 0, locals := 90 } : Room)) (k9 := 1) (S' := S) (N' := (up2 (up2 N 5 0 0) 5 0 1)) (w' := w) (by exact h_closingPrice_1 l hao (t_X0_closingPrice_t l hl9 D cI cQ a S hI hb)) hJ9.2.2.2.1 (up2_eq _ _ _ _) (fun z => absurd z (by decide)) (by exact c_X1_closingPrice_f l D cI b N _ hM (isI_badT (by omega) hb)) ⟨rfl, rfl⟩ ⟨Nat.le_of_ble_eq_true rfl, Nat.le_of_ble_eq_true rfl⟩ (fun H1 locs1 ls1 => kx _ _ _ H1 locs1 ls1 ⟨T, R, sec, B, wt, pt, bt, u, q, hJ9, by omega, by omega, by omega⟩)
  obtain ⟨t, ht, e1⟩ := hb
  have hr := hJ.cl ht
  have hJ9 := hJ0
  exact lc_closingPrice hX hn hB hN hO hS hf hl (r := bCl S R t) (rm := ({ frames := 4, cells := 0, slots := 0, locals := 90 } : Room)) (k9 := 0) (S' := S) (N' := (up2 N 5 0 0)) (w' := (bCl S R t).toInt64) (by rw [e1]; exact h_closingPrice_ok l hao (c_X0_closingPrice l D cI cQ a S hI ht)) hJ9.2.2.2.1 (up2_eq _ _ _ _) (fun _ => rfl) (by rw [e1, hr]; exact c_X1_closingPrice_ok l D cI b N hM ht hU hP) ⟨rfl, rfl⟩ ⟨Nat.le_of_ble_eq_true rfl, Nat.le_of_ble_eq_true rfl⟩ (fun H1 locs1 ls1 => kx _ _ _ H1 locs1 ls1 ⟨T, R, sec, B, wt, pt, bt, u, q, hJ9, by omega, by omega, by omega⟩)
set_option maxHeartbeats 4000000 in
set_option maxRecDepth 100000 in
theorem st_purseOf {p : Program} {l : Launch} {e : Env} {s : State} {m : MethodId} {args : Array Value} {below : List Frame} {meth : Method} {c : Code} {H : Heap} {locs : List Loc} {cells slots : Nat} {Q : State → Prop} {ls : Array Slot} {bs L : Nat} {xs : Nat → Int32} {D : va_G} {cI cQ cL : ClassId} {a b : Nat → Nat} {o : Nat} {S N : bS} {w : Int64} {n : Nat} (hX : LX l p m c s args bs L xs a b o) (hn : 4 * n + 4 ≤ L) (hB : BW D cI cQ a S s H) (hN : MW D cI b N s H) (hO : OW D cL o w s H) (hS : va_S (A0 s) s.heap H locs) (hf : cells + 9 ≤ 601024 ∧ slots + 64 ≤ 7293034) (hl : lv_has ls 9 [(4, .int (nI (4 * n))), (0, .ref (bs)), (1, .ref (a 13)), (2, .ref (b 5)), (3, .ref (o))]) (hJn : Jn S N n) (kx : ∀ (S' N' : bS) (w' : Int64) (H1 : Heap) (locs1 : List Loc) (ls1 : Array Slot), Jn S' N' (n + 1) → BW D cI cQ a S' s H1 → MW D cI b N' s H1 → OW D cL o w' s H1 → va_S (A0 s) s.heap H1 locs1 → lv_has ls1 9 [(4, .int (nI (4 * n))), (0, .ref (bs)), (1, .ref (a 13)), (2, .ref (b 5)), (3, .ref (o))] → W p l e room_1 s m args below meth c H1 locs1 (cells + 9) (slots + 64) Q (F0 m 1559 ls1 [])) : W p l e room_1 s m args below meth c H locs cells slots Q (F0 m 913 ls []) := by
  obtain ⟨T, R, sec, B, wt, pt, bt, u, q, hJ, hs1, hB1, hB2⟩ := hJn
  obtain ⟨-, hl9, -, -, hL, -, -, -, -, -, -, hao, -⟩ := id hX
  have hI := hJ.1
  have hM := hJ.2.2.2.1
  have hP := hJ.2.2.2.2.1.mP
  have hU := hJ.2.2.2.2.1.mU
  have hJ0 := hJ.re (RE.five N 0)
  have hJk := hJ.re (RK_kp N).1
  have h8 := hI.2.2.1
  have h6 := hI.2.2.2
  by_cases hb : ∃ r : Nat, r < R ∧ xs (4 * n + 1) = nI r
  rotate_left
  · have hJ9 := hJ.re (RE.five2 N 0 1)
    exact lc_purseOf hX hn hB hN hO hS hf hl (r := 0) (rm := ({ frames := 2, cells := 0, slots := 0, locals := 43 } : Room)) (k9 := 1) (S' := S) (N' := (up2 (up2 N 5 0 0) 5 0 1)) (w' := w) (by exact h_purseOf_1 l hao (t_X0_purseOf_r l hl9 D cI cQ a S hI hb)) hJ9.2.2.2.1 (up2_eq _ _ _ _) (fun z => absurd z (by decide)) (by exact c_X1_purseOf_f l D cI b N _ hM (isI_badT (by omega) hb)) ⟨rfl, rfl⟩ ⟨Nat.le_of_ble_eq_true rfl, Nat.le_of_ble_eq_true rfl⟩ (fun H1 locs1 ls1 => kx _ _ _ H1 locs1 ls1 ⟨T, R, sec, B, wt, pt, bt, u, q, hJ9, by omega, by omega, by omega⟩)
  obtain ⟨r, hr9, e1⟩ := hb
  have hr := hJ.2.1.1 r (by omega)
  have hJ9 := hJ0
  exact lc_purseOf hX hn hB hN hO hS hf hl (r := S 5 r) (rm := ({ frames := 2, cells := 0, slots := 0, locals := 43 } : Room)) (k9 := 0) (S' := S) (N' := (up2 N 5 0 0)) (w' := (S 5 r).toInt64) (by rw [e1]; exact h_purseOf_ok l hao (c_X0_purseOf l D cI cQ a S hI hr9)) hJ9.2.2.2.1 (up2_eq _ _ _ _) (fun _ => rfl) (by rw [e1, hr]; exact c_X1_purseOf_ok l D cI b N hM hr9) ⟨rfl, rfl⟩ ⟨Nat.le_of_ble_eq_true rfl, Nat.le_of_ble_eq_true rfl⟩ (fun H1 locs1 ls1 => kx _ _ _ H1 locs1 ls1 ⟨T, R, sec, B, wt, pt, bt, u, q, hJ9, by omega, by omega, by omega⟩)
set_option maxHeartbeats 4000000 in
set_option maxRecDepth 100000 in
theorem st_worthOf {p : Program} {l : Launch} {e : Env} {s : State} {m : MethodId} {args : Array Value} {below : List Frame} {meth : Method} {c : Code} {H : Heap} {locs : List Loc} {cells slots : Nat} {Q : State → Prop} {ls : Array Slot} {bs L : Nat} {xs : Nat → Int32} {D : va_G} {cI cQ cL : ClassId} {a b : Nat → Nat} {o : Nat} {S N : bS} {w : Int64} {n : Nat} (hX : LX l p m c s args bs L xs a b o) (hn : 4 * n + 4 ≤ L) (hB : BW D cI cQ a S s H) (hN : MW D cI b N s H) (hO : OW D cL o w s H) (hS : va_S (A0 s) s.heap H locs) (hf : cells + 9 ≤ 601024 ∧ slots + 64 ≤ 7293034) (hl : lv_has ls 9 [(4, .int (nI (4 * n))), (0, .ref (bs)), (1, .ref (a 13)), (2, .ref (b 5)), (3, .ref (o))]) (hJn : Jn S N n) (kx : ∀ (S' N' : bS) (w' : Int64) (H1 : Heap) (locs1 : List Loc) (ls1 : Array Slot), Jn S' N' (n + 1) → BW D cI cQ a S' s H1 → MW D cI b N' s H1 → OW D cL o w' s H1 → va_S (A0 s) s.heap H1 locs1 → lv_has ls1 9 [(4, .int (nI (4 * n))), (0, .ref (bs)), (1, .ref (a 13)), (2, .ref (b 5)), (3, .ref (o))] → W p l e room_1 s m args below meth c H1 locs1 (cells + 9) (slots + 64) Q (F0 m 1559 ls1 [])) : W p l e room_1 s m args below meth c H locs cells slots Q (F0 m 1037 ls []) := by
  obtain ⟨T, R, sec, B, wt, pt, bt, u, q, hJ, hs1, hB1, hB2⟩ := hJn
  obtain ⟨-, hl9, -, -, hL, -, -, -, -, -, -, hao, -⟩ := id hX
  have hI := hJ.1
  have hM := hJ.2.2.2.1
  have hP := hJ.2.2.2.2.1.mP
  have hU := hJ.2.2.2.2.1.mU
  have hJ0 := hJ.re (RE.five N 0)
  have hJk := hJ.re (RK_kp N).1
  have h8 := hI.2.2.1
  have h6 := hI.2.2.2
  by_cases hb : ∃ r : Nat, r < R ∧ xs (4 * n + 1) = nI r
  rotate_left
  · have hJ9 := hJ.re (RE.five2 N 0 1)
    exact lc_worthOf hX hn hB hN hO hS hf hl (r := 0) (rm := ({ frames := 5, cells := 0, slots := 0, locals := 113 } : Room)) (k9 := 1) (S' := S) (N' := (up2 (up2 N 5 0 0) 5 0 1)) (w' := w) (by exact h_worthOf_1 l hao (t_X0_worthOf_r l hl9 D cI cQ a S hI hb)) hJ9.2.2.2.1 (up2_eq _ _ _ _) (fun z => absurd z (by decide)) (by exact c_X1_worthOf_f l D cI b N _ hM (isI_badT (by omega) hb)) ⟨rfl, rfl⟩ ⟨Nat.le_of_ble_eq_true rfl, Nat.le_of_ble_eq_true rfl⟩ (fun H1 locs1 ls1 => kx _ _ _ H1 locs1 ls1 ⟨T, R, sec, B, wt, pt, bt, u, q, hJ9, by omega, by omega, by omega⟩)
  obtain ⟨r, hr9, e1⟩ := hb
  have hr := hJ.w0 hr9 (by omega)
  have hJ9 := hJ0
  exact lc_worthOf hX hn hB hN hO hS hf hl (r := bWb S T R r 0) (rm := ({ frames := 5, cells := 0, slots := 0, locals := 113 } : Room)) (k9 := 0) (S' := S) (N' := (up2 N 5 0 0)) (w' := (bWb S T R r 0).toInt64) (by rw [e1]; exact h_worthOf_ok l hao (c_X0_worthOf l D cI cQ a S hI hr9)) hJ9.2.2.2.1 (up2_eq _ _ _ _) (fun _ => rfl) (by rw [e1, hr]; exact c_X1_worthOf_ok l D cI b N hM hr9) ⟨rfl, rfl⟩ ⟨Nat.le_of_ble_eq_true rfl, Nat.le_of_ble_eq_true rfl⟩ (fun H1 locs1 ls1 => kx _ _ _ H1 locs1 ls1 ⟨T, R, sec, B, wt, pt, bt, u, q, hJ9, by omega, by omega, by omega⟩)
set_option maxHeartbeats 4000000 in
set_option maxRecDepth 100000 in
theorem st_shortsOf {p : Program} {l : Launch} {e : Env} {s : State} {m : MethodId} {args : Array Value} {below : List Frame} {meth : Method} {c : Code} {H : Heap} {locs : List Loc} {cells slots : Nat} {Q : State → Prop} {ls : Array Slot} {bs L : Nat} {xs : Nat → Int32} {D : va_G} {cI cQ cL : ClassId} {a b : Nat → Nat} {o : Nat} {S N : bS} {w : Int64} {n : Nat} (hX : LX l p m c s args bs L xs a b o) (hn : 4 * n + 4 ≤ L) (hB : BW D cI cQ a S s H) (hN : MW D cI b N s H) (hO : OW D cL o w s H) (hS : va_S (A0 s) s.heap H locs) (hf : cells + 9 ≤ 601024 ∧ slots + 64 ≤ 7293034) (hl : lv_has ls 9 [(4, .int (nI (4 * n))), (0, .ref (bs)), (1, .ref (a 13)), (2, .ref (b 5)), (3, .ref (o))]) (hJn : Jn S N n) (kx : ∀ (S' N' : bS) (w' : Int64) (H1 : Heap) (locs1 : List Loc) (ls1 : Array Slot), Jn S' N' (n + 1) → BW D cI cQ a S' s H1 → MW D cI b N' s H1 → OW D cL o w' s H1 → va_S (A0 s) s.heap H1 locs1 → lv_has ls1 9 [(4, .int (nI (4 * n))), (0, .ref (bs)), (1, .ref (a 13)), (2, .ref (b 5)), (3, .ref (o))] → W p l e room_1 s m args below meth c H1 locs1 (cells + 9) (slots + 64) Q (F0 m 1559 ls1 [])) : W p l e room_1 s m args below meth c H locs cells slots Q (F0 m 1106 ls []) := by
  obtain ⟨T, R, sec, B, wt, pt, bt, u, q, hJ, hs1, hB1, hB2⟩ := hJn
  obtain ⟨-, hl9, -, -, hL, -, -, -, -, -, -, hao, -⟩ := id hX
  have hI := hJ.1
  have hM := hJ.2.2.2.1
  have hP := hJ.2.2.2.2.1.mP
  have hU := hJ.2.2.2.2.1.mU
  have hJ0 := hJ.re (RE.five N 0)
  have hJk := hJ.re (RK_kp N).1
  have h8 := hI.2.2.1
  have h6 := hI.2.2.2
  by_cases hb : ∃ r : Nat, r < R ∧ xs (4 * n + 1) = nI r
  rotate_left
  · have hJ9 := hJ.re (RE.five2 N 0 1)
    exact lc_shortsOf hX hn hB hN hO hS hf hl (r := 0) (rm := ({ frames := 2, cells := 0, slots := 0, locals := 44 } : Room)) (k9 := 1) (S' := S) (N' := (up2 (up2 N 5 0 0) 5 0 1)) (w' := w) (by exact h_shortsOf_1 l hao (t_X0_shortsOf_r l hl9 D cI cQ a S hI hb)) hJ9.2.2.2.1 (up2_eq _ _ _ _) (fun z => absurd z (by decide)) (by exact c_X1_shortsOf_f l D cI b N _ hM (isI_badT (by omega) hb)) ⟨rfl, rfl⟩ ⟨Nat.le_of_ble_eq_true rfl, Nat.le_of_ble_eq_true rfl⟩ (fun H1 locs1 ls1 => kx _ _ _ H1 locs1 ls1 ⟨T, R, sec, B, wt, pt, bt, u, q, hJ9, by omega, by omega, by omega⟩)
  obtain ⟨r, hr9, e1⟩ := hb
  have hr := hJ.sh hr9
  have hJ9 := hJ0
  exact lc_shortsOf hX hn hB hN hO hS hf hl (r := bSh S T r) (rm := ({ frames := 2, cells := 0, slots := 0, locals := 44 } : Room)) (k9 := 0) (S' := S) (N' := (up2 N 5 0 0)) (w' := (bSh S T r).toInt64) (by rw [e1]; exact h_shortsOf_ok l hao (c_X0_shortsOf l D cI cQ a S hI hr9)) hJ9.2.2.2.1 (up2_eq _ _ _ _) (fun _ => rfl) (by rw [e1, hr]; exact c_X1_shortsOf_ok l D cI b N hM hr9) ⟨rfl, rfl⟩ ⟨Nat.le_of_ble_eq_true rfl, Nat.le_of_ble_eq_true rfl⟩ (fun H1 locs1 ls1 => kx _ _ _ H1 locs1 ls1 ⟨T, R, sec, B, wt, pt, bt, u, q, hJ9, by omega, by omega, by omega⟩)
set_option maxHeartbeats 4000000 in
set_option maxRecDepth 100000 in
theorem st_secondsUntilDebt {p : Program} {l : Launch} {e : Env} {s : State} {m : MethodId} {args : Array Value} {below : List Frame} {meth : Method} {c : Code} {H : Heap} {locs : List Loc} {cells slots : Nat} {Q : State → Prop} {ls : Array Slot} {bs L : Nat} {xs : Nat → Int32} {D : va_G} {cI cQ cL : ClassId} {a b : Nat → Nat} {o : Nat} {S N : bS} {w : Int64} {n : Nat} (hX : LX l p m c s args bs L xs a b o) (hn : 4 * n + 4 ≤ L) (hB : BW D cI cQ a S s H) (hN : MW D cI b N s H) (hO : OW D cL o w s H) (hS : va_S (A0 s) s.heap H locs) (hf : cells + 9 ≤ 601024 ∧ slots + 64 ≤ 7293034) (hl : lv_has ls 9 [(4, .int (nI (4 * n))), (0, .ref (bs)), (1, .ref (a 13)), (2, .ref (b 5)), (3, .ref (o))]) (hJn : Jn S N n) (kx : ∀ (S' N' : bS) (w' : Int64) (H1 : Heap) (locs1 : List Loc) (ls1 : Array Slot), Jn S' N' (n + 1) → BW D cI cQ a S' s H1 → MW D cI b N' s H1 → OW D cL o w' s H1 → va_S (A0 s) s.heap H1 locs1 → lv_has ls1 9 [(4, .int (nI (4 * n))), (0, .ref (bs)), (1, .ref (a 13)), (2, .ref (b 5)), (3, .ref (o))] → W p l e room_1 s m args below meth c H1 locs1 (cells + 9) (slots + 64) Q (F0 m 1559 ls1 [])) : W p l e room_1 s m args below meth c H locs cells slots Q (F0 m 1448 ls []) := by
  obtain ⟨T, R, sec, B, wt, pt, bt, u, q, hJ, hs1, hB1, hB2⟩ := hJn
  obtain ⟨-, hl9, -, -, hL, -, -, -, -, -, -, hao, -⟩ := id hX
  have hI := hJ.1
  have hM := hJ.2.2.2.1
  have hP := hJ.2.2.2.2.1.mP
  have hU := hJ.2.2.2.2.1.mU
  have hJ0 := hJ.re (RE.five N 0)
  have hJk := hJ.re (RK_kp N).1
  have h8 := hI.2.2.1
  have h6 := hI.2.2.2
  by_cases hb : ∃ r : Nat, r < R ∧ xs (4 * n + 1) = nI r
  rotate_left
  · have hJ9 := hJ.re (RE.five2 N 0 1)
    exact lc_secondsUntilDebt hX hn hB hN hO hS hf hl (r := 0) (rm := ({ frames := 5, cells := 0, slots := 0, locals := 114 } : Room)) (k9 := 1) (S' := S) (N' := (up2 (up2 N 5 0 0) 5 0 1)) (w' := w) (by exact h_secondsUntilDebt_1 l hao (t_X0_secondsUntilDebt_r l hl9 D cI cQ a S hI hb)) hJ9.2.2.2.1 (up2_eq _ _ _ _) (fun z => absurd z (by decide)) (by exact c_X1_secondsUntilDebt_f l D cI b N _ hM (isI_badT (by omega) hb)) ⟨rfl, rfl⟩ ⟨Nat.le_of_ble_eq_true rfl, Nat.le_of_ble_eq_true rfl⟩ (fun H1 locs1 ls1 => kx _ _ _ H1 locs1 ls1 ⟨T, R, sec, B, wt, pt, bt, u, q, hJ9, by omega, by omega, by omega⟩)
  obtain ⟨r, hr9, e1⟩ := hb
  have hr := hJk.db hr9 (by omega) (by omega)
  have hJ9 := hJ.re (RK_bk (RK_kp N) (fun k9 j9 h9 => mPa_row (kp (up2 N 5 0 0)) T R j9 h9 (dbn (fun k => mPa (kp (up2 N 5 0 0)) T R k 3 (17 + r)) 101 0))).1
  exact lc_secondsUntilDebt hX hn hB hN hO hS hf hl (r := bDb S T R r) (rm := ({ frames := 5, cells := 0, slots := 0, locals := 114 } : Room)) (k9 := 0) (S' := S) (N' := (bk (mPa (kp (up2 N 5 0 0)) T R (dbn (fun k => mPa (kp (up2 N 5 0 0)) T R k 3 (17 + r)) 101 0)))) (w' := (bDb S T R r).toInt64) (by rw [e1]; exact h_secondsUntilDebt_ok l hao (c_X0_secondsUntilDebt l D cI cQ a S hI hr9)) hJ9.2.2.2.1 (mPa_row (kp (up2 N 5 0 0)) T R 0 (by decide : 5 ≠ 3) (dbn (fun k => mPa (kp (up2 N 5 0 0)) T R k 3 (17 + r)) 101 0)) (fun _ => rfl) (by rw [e1, hr]; exact c_X1_secondsUntilDebt_ok l D cI b N hM hr9 hP) ⟨rfl, rfl⟩ ⟨Nat.le_of_ble_eq_true rfl, Nat.le_of_ble_eq_true rfl⟩ (fun H1 locs1 ls1 => kx _ _ _ H1 locs1 ls1 ⟨T, R, sec, B, wt, pt, bt, u, q, hJ9, by omega, by omega, by omega⟩)
set_option maxHeartbeats 4000000 in
set_option maxRecDepth 100000 in
theorem st_holds {p : Program} {l : Launch} {e : Env} {s : State} {m : MethodId} {args : Array Value} {below : List Frame} {meth : Method} {c : Code} {H : Heap} {locs : List Loc} {cells slots : Nat} {Q : State → Prop} {ls : Array Slot} {bs L : Nat} {xs : Nat → Int32} {D : va_G} {cI cQ cL : ClassId} {a b : Nat → Nat} {o : Nat} {S N : bS} {w : Int64} {n : Nat} (hX : LX l p m c s args bs L xs a b o) (hn : 4 * n + 4 ≤ L) (hB : BW D cI cQ a S s H) (hN : MW D cI b N s H) (hO : OW D cL o w s H) (hS : va_S (A0 s) s.heap H locs) (hf : cells + 9 ≤ 601024 ∧ slots + 64 ≤ 7293034) (hl : lv_has ls 9 [(4, .int (nI (4 * n))), (0, .ref (bs)), (1, .ref (a 13)), (2, .ref (b 5)), (3, .ref (o))]) (hJn : Jn S N n) (kx : ∀ (S' N' : bS) (w' : Int64) (H1 : Heap) (locs1 : List Loc) (ls1 : Array Slot), Jn S' N' (n + 1) → BW D cI cQ a S' s H1 → MW D cI b N' s H1 → OW D cL o w' s H1 → va_S (A0 s) s.heap H1 locs1 → lv_has ls1 9 [(4, .int (nI (4 * n))), (0, .ref (bs)), (1, .ref (a 13)), (2, .ref (b 5)), (3, .ref (o))] → W p l e room_1 s m args below meth c H1 locs1 (cells + 9) (slots + 64) Q (F0 m 1559 ls1 [])) : W p l e room_1 s m args below meth c H locs cells slots Q (F0 m 969 ls []) := by
  obtain ⟨T, R, sec, B, wt, pt, bt, u, q, hJ, hs1, hB1, hB2⟩ := hJn
  obtain ⟨-, hl9, -, -, hL, -, -, -, -, -, -, hao, -⟩ := id hX
  have hI := hJ.1
  have hM := hJ.2.2.2.1
  have hP := hJ.2.2.2.2.1.mP
  have hU := hJ.2.2.2.2.1.mU
  have hJ0 := hJ.re (RE.five N 0)
  have hJk := hJ.re (RK_kp N).1
  have h8 := hI.2.2.1
  have h6 := hI.2.2.2
  by_cases hb : ∃ r : Nat, r < R ∧ xs (4 * n + 1) = nI r
  rotate_left
  · have hJ9 := hJ.re (RE.five2 N 0 1)
    exact lc_holds hX hn hB hN hO hS hf hl (r := 0) (rm := ({ frames := 2, cells := 0, slots := 0, locals := 43 } : Room)) (k9 := 1) (S' := S) (N' := (up2 (up2 N 5 0 0) 5 0 1)) (w' := w) (by exact h_holds_1 l hao (t_X0_holds_r l hl9 D cI cQ a S hI hb)) hJ9.2.2.2.1 (up2_eq _ _ _ _) (fun z => absurd z (by decide)) (by exact c_X1_holds_f l D cI b N _ _ hM (isI_badT (by omega) hb)) ⟨rfl, rfl⟩ ⟨Nat.le_of_ble_eq_true rfl, Nat.le_of_ble_eq_true rfl⟩ (fun H1 locs1 ls1 => kx _ _ _ H1 locs1 ls1 ⟨T, R, sec, B, wt, pt, bt, u, q, hJ9, by omega, by omega, by omega⟩)
  obtain ⟨r, hr9, e1⟩ := hb
  by_cases hb : ∃ t : Nat, t < T ∧ xs (4 * n + 2) = nI t
  rotate_left
  · have hJ9 := hJ.re (RE.five2 N 0 1)
    exact lc_holds hX hn hB hN hO hS hf hl (r := 0) (rm := ({ frames := 2, cells := 0, slots := 0, locals := 43 } : Room)) (k9 := 1) (S' := S) (N' := (up2 (up2 N 5 0 0) 5 0 1)) (w' := w) (by rw [e1]; exact h_holds_1 l hao (t_X0_holds_t l hl9 D cI cQ a S hI hr9 hb)) hJ9.2.2.2.1 (up2_eq _ _ _ _) (fun z => absurd z (by decide)) (by rw [e1]; exact c_X1_holds_g l D cI b N _ hM hr9 (isI_badT (by omega) hb)) ⟨rfl, rfl⟩ ⟨Nat.le_of_ble_eq_true rfl, Nat.le_of_ble_eq_true rfl⟩ (fun H1 locs1 ls1 => kx _ _ _ H1 locs1 ls1 ⟨T, R, sec, B, wt, pt, bt, u, q, hJ9, by omega, by omega, by omega⟩)
  obtain ⟨t, ht, e2⟩ := hb
  have hr := hJ.2.1.2.1 r t (by omega) (by omega)
  have hJ9 := hJ0
  exact lc_holds hX hn hB hN hO hS hf hl (r := S (7 + r) t) (rm := ({ frames := 2, cells := 0, slots := 0, locals := 43 } : Room)) (k9 := 0) (S' := S) (N' := (up2 N 5 0 0)) (w' := (S (7 + r) t).toInt64) (by rw [e1, e2]; exact h_holds_ok l hao (c_X0_holds l D cI cQ a S hI hr9 ht)) hJ9.2.2.2.1 (up2_eq _ _ _ _) (fun _ => rfl) (by rw [e1, e2, hr]; exact c_X1_holds_ok l D cI b N hM hr9 ht) ⟨rfl, rfl⟩ ⟨Nat.le_of_ble_eq_true rfl, Nat.le_of_ble_eq_true rfl⟩ (fun H1 locs1 ls1 => kx _ _ _ H1 locs1 ls1 ⟨T, R, sec, B, wt, pt, bt, u, q, hJ9, by omega, by omega, by omega⟩)
set_option maxHeartbeats 4000000 in
set_option maxRecDepth 100000 in
theorem st_bestToSell {p : Program} {l : Launch} {e : Env} {s : State} {m : MethodId} {args : Array Value} {below : List Frame} {meth : Method} {c : Code} {H : Heap} {locs : List Loc} {cells slots : Nat} {Q : State → Prop} {ls : Array Slot} {bs L : Nat} {xs : Nat → Int32} {D : va_G} {cI cQ cL : ClassId} {a b : Nat → Nat} {o : Nat} {S N : bS} {w : Int64} {n : Nat} (hX : LX l p m c s args bs L xs a b o) (hn : 4 * n + 4 ≤ L) (hB : BW D cI cQ a S s H) (hN : MW D cI b N s H) (hO : OW D cL o w s H) (hS : va_S (A0 s) s.heap H locs) (hf : cells + 9 ≤ 601024 ∧ slots + 64 ≤ 7293034) (hl : lv_has ls 9 [(4, .int (nI (4 * n))), (0, .ref (bs)), (1, .ref (a 13)), (2, .ref (b 5)), (3, .ref (o))]) (hJn : Jn S N n) (kx : ∀ (S' N' : bS) (w' : Int64) (H1 : Heap) (locs1 : List Loc) (ls1 : Array Slot), Jn S' N' (n + 1) → BW D cI cQ a S' s H1 → MW D cI b N' s H1 → OW D cL o w' s H1 → va_S (A0 s) s.heap H1 locs1 → lv_has ls1 9 [(4, .int (nI (4 * n))), (0, .ref (bs)), (1, .ref (a 13)), (2, .ref (b 5)), (3, .ref (o))] → W p l e room_1 s m args below meth c H1 locs1 (cells + 9) (slots + 64) Q (F0 m 1559 ls1 [])) : W p l e room_1 s m args below meth c H locs cells slots Q (F0 m 1380 ls []) := by
  obtain ⟨T, R, sec, B, wt, pt, bt, u, q, hJ, hs1, hB1, hB2⟩ := hJn
  obtain ⟨-, hl9, -, -, hL, -, -, -, -, -, -, hao, -⟩ := id hX
  have hI := hJ.1
  have hM := hJ.2.2.2.1
  have hP := hJ.2.2.2.2.1.mP
  have hU := hJ.2.2.2.2.1.mU
  have hJ0 := hJ.re (RE.five N 0)
  have hJk := hJ.re (RK_kp N).1
  have h8 := hI.2.2.1
  have h6 := hI.2.2.2
  by_cases hb : ∃ r : Nat, r < R ∧ xs (4 * n + 1) = nI r
  rotate_left
  · have hJ9 := hJ.re (RE.five2 N 0 1)
    exact lc_bestToSell hX hn hB hN hO hS hf hl (r := 0) (rm := ({ frames := 6, cells := 0, slots := 0, locals := 137 } : Room)) (k9 := 1) (S' := S) (N' := (up2 (up2 N 5 0 0) 5 0 1)) (w' := w) (by exact h_bestToSell_1 l hao (t_X0_bestToSell_r l hl9 D cI cQ a S hI hb)) hJ9.2.2.2.1 (up2_eq _ _ _ _) (fun z => absurd z (by decide)) (by exact c_X1_bestToSell_f l D cI b N _ _ hM (isI_badT (by omega) hb)) ⟨rfl, rfl⟩ ⟨Nat.le_of_ble_eq_true rfl, Nat.le_of_ble_eq_true rfl⟩ (fun H1 locs1 ls1 => kx _ _ _ H1 locs1 ls1 ⟨T, R, sec, B, wt, pt, bt, u, q, hJ9, by omega, by omega, by omega⟩)
  obtain ⟨r, hr9, e1⟩ := hb
  by_cases hb : ∃ t : Nat, t < T ∧ xs (4 * n + 2) = nI t
  rotate_left
  · have hJ9 := hJ.re (RE.five2 N 0 1)
    exact lc_bestToSell hX hn hB hN hO hS hf hl (r := 0) (rm := ({ frames := 6, cells := 0, slots := 0, locals := 137 } : Room)) (k9 := 1) (S' := S) (N' := (up2 (up2 N 5 0 0) 5 0 1)) (w' := w) (by rw [e1]; exact h_bestToSell_1 l hao (t_X0_bestToSell_t l hl9 D cI cQ a S hI hr9 hb)) hJ9.2.2.2.1 (up2_eq _ _ _ _) (fun z => absurd z (by decide)) (by rw [e1]; exact c_X1_bestToSell_g l D cI b N _ hM hr9 (isI_badT (by omega) hb)) ⟨rfl, rfl⟩ ⟨Nat.le_of_ble_eq_true rfl, Nat.le_of_ble_eq_true rfl⟩ (fun H1 locs1 ls1 => kx _ _ _ H1 locs1 ls1 ⟨T, R, sec, B, wt, pt, bt, u, q, hJ9, by omega, by omega, by omega⟩)
  obtain ⟨t, ht, e2⟩ := hb
  have hH := (hJ.2.2.2.2.2.1 r t (by omega) (by omega)).1
  obtain ⟨M, hMN, hM9, hMh⟩ := mn_M hH.1 hH.2
  have hMS : mn 9 (S (7 + r) t + 9) = nI M := by rw [hJ.2.1.2.1 r t (by omega) (by omega)]; exact hMN
  have hr := hJ.bs hr9 ht hM9 hMh (by omega) (by omega)
  have hJ9 := hJ.re (RK_bn (N := N) (T := T) (R := R) (r := r) (t := t) (far := u t) (M + 1)).1
  exact lc_bestToSell hX hn hB hN hO hS hf hl (r := nI (bsl (bYi S R r t) M)) (rm := ({ frames := 6, cells := 0, slots := 0, locals := 137 } : Room)) (k9 := 0) (S' := S) (N' := (mBn (kp (up2 N 5 0 0)) T R r t (u t) (M + 1))) (w' := (nI (bsl (bYi S R r t) M)).toInt64) (by rw [e1, e2]; exact h_bestToSell_ok l hao (c_X0_bestToSell l D cI cQ a S hI hr9 ht hMS hM9)) hJ9.2.2.2.1 (mBn_five (M + 1)) (fun _ => rfl) (by rw [e1, e2, hr]; exact c_X1_bestToSell_ok l D cI b N hM hr9 ht hMN hM9 hU hP) ⟨rfl, rfl⟩ ⟨Nat.le_of_ble_eq_true rfl, Nat.le_of_ble_eq_true rfl⟩ (fun H1 locs1 ls1 => kx _ _ _ H1 locs1 ls1 ⟨T, R, sec, B, wt, pt, bt, u, q, hJ9, by omega, by omega, by omega⟩)
set_option maxHeartbeats 4000000 in
set_option maxRecDepth 100000 in
theorem st_priceIn {p : Program} {l : Launch} {e : Env} {s : State} {m : MethodId} {args : Array Value} {below : List Frame} {meth : Method} {c : Code} {H : Heap} {locs : List Loc} {cells slots : Nat} {Q : State → Prop} {ls : Array Slot} {bs L : Nat} {xs : Nat → Int32} {D : va_G} {cI cQ cL : ClassId} {a b : Nat → Nat} {o : Nat} {S N : bS} {w : Int64} {n : Nat} (hX : LX l p m c s args bs L xs a b o) (hn : 4 * n + 4 ≤ L) (hB : BW D cI cQ a S s H) (hN : MW D cI b N s H) (hO : OW D cL o w s H) (hS : va_S (A0 s) s.heap H locs) (hf : cells + 9 ≤ 601024 ∧ slots + 64 ≤ 7293034) (hl : lv_has ls 9 [(4, .int (nI (4 * n))), (0, .ref (bs)), (1, .ref (a 13)), (2, .ref (b 5)), (3, .ref (o))]) (hJn : Jn S N n) (kx : ∀ (S' N' : bS) (w' : Int64) (H1 : Heap) (locs1 : List Loc) (ls1 : Array Slot), Jn S' N' (n + 1) → BW D cI cQ a S' s H1 → MW D cI b N' s H1 → OW D cL o w' s H1 → va_S (A0 s) s.heap H1 locs1 → lv_has ls1 9 [(4, .int (nI (4 * n))), (0, .ref (bs)), (1, .ref (a 13)), (2, .ref (b 5)), (3, .ref (o))] → W p l e room_1 s m args below meth c H1 locs1 (cells + 9) (slots + 64) Q (F0 m 1559 ls1 [])) : W p l e room_1 s m args below meth c H locs cells slots Q (F0 m 1231 ls []) := by
  obtain ⟨T, R, sec, B, wt, pt, bt, u, q, hJ, hs1, hB1, hB2⟩ := hJn
  obtain ⟨-, hl9, -, -, hL, -, -, -, -, -, -, hao, -⟩ := id hX
  have hI := hJ.1
  have hM := hJ.2.2.2.1
  have hP := hJ.2.2.2.2.1.mP
  have hU := hJ.2.2.2.2.1.mU
  have hJ0 := hJ.re (RE.five N 0)
  have hJk := hJ.re (RK_kp N).1
  have h8 := hI.2.2.1
  have h6 := hI.2.2.2
  by_cases hb : ∃ t : Nat, t < T ∧ xs (4 * n + 1) = nI t
  rotate_left
  · have hJ9 := hJ.re (RE.five2 N 0 1)
    exact lc_priceIn hX hn hB hN hO hS hf hl (r := 0) (rm := ({ frames := 6, cells := 0, slots := 0, locals := 137 } : Room)) (k9 := 1) (S' := S) (N' := (up2 (up2 N 5 0 0) 5 0 1)) (w' := w) (by exact h_priceIn_1 l hao (t_X0_priceIn_t l hl9 D cI cQ a S hI hb)) hJ9.2.2.2.1 (up2_eq _ _ _ _) (fun z => absurd z (by decide)) (by exact c_X1_priceIn_f l D cI b N _ _ hM (isI_badT (by omega) hb)) ⟨rfl, rfl⟩ ⟨Nat.le_of_ble_eq_true rfl, Nat.le_of_ble_eq_true rfl⟩ (fun H1 locs1 ls1 => kx _ _ _ H1 locs1 ls1 ⟨T, R, sec, B, wt, pt, bt, u, q, hJ9, by omega, by omega, by omega⟩)
  obtain ⟨t, ht, e1⟩ := hb
  by_cases hb : ∃ k : Nat, 1 ≤ k ∧ k ≤ 60 ∧ xs (4 * n + 2) = nI k
  rotate_left
  · have hJ9 := hJ.re (RE.five2 N 0 2)
    exact lc_priceIn hX hn hB hN hO hS hf hl (r := 0) (rm := ({ frames := 6, cells := 0, slots := 0, locals := 137 } : Room)) (k9 := 2) (S' := S) (N' := (up2 (up2 N 5 0 0) 5 0 2)) (w' := w) (by rw [e1]; exact h_priceIn_2 l hao (t_X0_priceIn_k l hl9 D cI cQ a S hI ht hb)) hJ9.2.2.2.1 (up2_eq _ _ _ _) (fun z => absurd z (by decide)) (by rw [e1]; exact c_X1_priceIn_g l D cI b N _ hM ht (isI_bad (lo := 1) (hi := 60) (by decide) (by decide) hb)) ⟨rfl, rfl⟩ ⟨Nat.le_of_ble_eq_true rfl, Nat.le_of_ble_eq_true rfl⟩ (fun H1 locs1 ls1 => kx _ _ _ H1 locs1 ls1 ⟨T, R, sec, B, wt, pt, bt, u, q, hJ9, by omega, by omega, by omega⟩)
  obtain ⟨k, hk1, hk9, e2⟩ := hb
  have hr := hJk.pb ht (k := k) (by omega) (by omega) (by omega)
  have hJ9 := hJ.re (RK_bk (RK_kp N) (fun k9 j9 h9 => mPa_row (kp (up2 N 5 0 0)) T R j9 h9 k)).1
  exact lc_priceIn hX hn hB hN hO hS hf hl (r := bPb S R t k) (rm := ({ frames := 6, cells := 0, slots := 0, locals := 137 } : Room)) (k9 := 0) (S' := S) (N' := (bk (mPa (kp (up2 N 5 0 0)) T R k))) (w' := (bPb S R t k).toInt64) (by rw [e1, e2]; exact h_priceIn_ok l hao (c_X0_priceIn l D cI cQ a S hI ht hk1 hk9)) hJ9.2.2.2.1 (mPa_row (kp (up2 N 5 0 0)) T R 0 (by decide : 5 ≠ 3) k) (fun _ => rfl) (by rw [e1, e2, hr]; exact c_X1_priceIn_ok l D cI b N hM hP ht hk1 hk9) ⟨rfl, rfl⟩ ⟨Nat.le_of_ble_eq_true rfl, Nat.le_of_ble_eq_true rfl⟩ (fun H1 locs1 ls1 => kx _ _ _ H1 locs1 ls1 ⟨T, R, sec, B, wt, pt, bt, u, q, hJ9, by omega, by omega, by omega⟩)
set_option maxHeartbeats 4000000 in
set_option maxRecDepth 100000 in
theorem st_worthIn {p : Program} {l : Launch} {e : Env} {s : State} {m : MethodId} {args : Array Value} {below : List Frame} {meth : Method} {c : Code} {H : Heap} {locs : List Loc} {cells slots : Nat} {Q : State → Prop} {ls : Array Slot} {bs L : Nat} {xs : Nat → Int32} {D : va_G} {cI cQ cL : ClassId} {a b : Nat → Nat} {o : Nat} {S N : bS} {w : Int64} {n : Nat} (hX : LX l p m c s args bs L xs a b o) (hn : 4 * n + 4 ≤ L) (hB : BW D cI cQ a S s H) (hN : MW D cI b N s H) (hO : OW D cL o w s H) (hS : va_S (A0 s) s.heap H locs) (hf : cells + 9 ≤ 601024 ∧ slots + 64 ≤ 7293034) (hl : lv_has ls 9 [(4, .int (nI (4 * n))), (0, .ref (bs)), (1, .ref (a 13)), (2, .ref (b 5)), (3, .ref (o))]) (hJn : Jn S N n) (kx : ∀ (S' N' : bS) (w' : Int64) (H1 : Heap) (locs1 : List Loc) (ls1 : Array Slot), Jn S' N' (n + 1) → BW D cI cQ a S' s H1 → MW D cI b N' s H1 → OW D cL o w' s H1 → va_S (A0 s) s.heap H1 locs1 → lv_has ls1 9 [(4, .int (nI (4 * n))), (0, .ref (bs)), (1, .ref (a 13)), (2, .ref (b 5)), (3, .ref (o))] → W p l e room_1 s m args below meth c H1 locs1 (cells + 9) (slots + 64) Q (F0 m 1559 ls1 [])) : W p l e room_1 s m args below meth c H locs cells slots Q (F0 m 1299 ls []) := by
  obtain ⟨T, R, sec, B, wt, pt, bt, u, q, hJ, hs1, hB1, hB2⟩ := hJn
  obtain ⟨-, hl9, -, -, hL, -, -, -, -, -, -, hao, -⟩ := id hX
  have hI := hJ.1
  have hM := hJ.2.2.2.1
  have hP := hJ.2.2.2.2.1.mP
  have hU := hJ.2.2.2.2.1.mU
  have hJ0 := hJ.re (RE.five N 0)
  have hJk := hJ.re (RK_kp N).1
  have h8 := hI.2.2.1
  have h6 := hI.2.2.2
  by_cases hb : ∃ r : Nat, r < R ∧ xs (4 * n + 1) = nI r
  rotate_left
  · have hJ9 := hJ.re (RE.five2 N 0 1)
    exact lc_worthIn hX hn hB hN hO hS hf hl (r := 0) (rm := ({ frames := 6, cells := 0, slots := 0, locals := 137 } : Room)) (k9 := 1) (S' := S) (N' := (up2 (up2 N 5 0 0) 5 0 1)) (w' := w) (by exact h_worthIn_1 l hao (t_X0_worthIn_r l hl9 D cI cQ a S hI hb)) hJ9.2.2.2.1 (up2_eq _ _ _ _) (fun z => absurd z (by decide)) (by exact c_X1_worthIn_f l D cI b N _ _ hM (isI_badT (by omega) hb)) ⟨rfl, rfl⟩ ⟨Nat.le_of_ble_eq_true rfl, Nat.le_of_ble_eq_true rfl⟩ (fun H1 locs1 ls1 => kx _ _ _ H1 locs1 ls1 ⟨T, R, sec, B, wt, pt, bt, u, q, hJ9, by omega, by omega, by omega⟩)
  obtain ⟨r, hr9, e1⟩ := hb
  by_cases hb : ∃ k : Nat, 1 ≤ k ∧ k ≤ 60 ∧ xs (4 * n + 2) = nI k
  rotate_left
  · have hJ9 := hJ.re (RE.five2 N 0 2)
    exact lc_worthIn hX hn hB hN hO hS hf hl (r := 0) (rm := ({ frames := 6, cells := 0, slots := 0, locals := 137 } : Room)) (k9 := 2) (S' := S) (N' := (up2 (up2 N 5 0 0) 5 0 2)) (w' := w) (by rw [e1]; exact h_worthIn_2 l hao (t_X0_worthIn_k l hl9 D cI cQ a S hI hr9 hb)) hJ9.2.2.2.1 (up2_eq _ _ _ _) (fun z => absurd z (by decide)) (by rw [e1]; exact c_X1_worthIn_g l D cI b N _ hM hr9 (isI_bad (lo := 1) (hi := 60) (by decide) (by decide) hb)) ⟨rfl, rfl⟩ ⟨Nat.le_of_ble_eq_true rfl, Nat.le_of_ble_eq_true rfl⟩ (fun H1 locs1 ls1 => kx _ _ _ H1 locs1 ls1 ⟨T, R, sec, B, wt, pt, bt, u, q, hJ9, by omega, by omega, by omega⟩)
  obtain ⟨k, hk1, hk9, e2⟩ := hb
  have hr := hJk.wb hr9 (k := k) (by omega) (by omega) (by omega)
  have hJ9 := hJ.re (RK_bk (RK_kp N) (fun k9 j9 h9 => mPa_row (kp (up2 N 5 0 0)) T R j9 h9 k)).1
  exact lc_worthIn hX hn hB hN hO hS hf hl (r := bWb S T R r k) (rm := ({ frames := 6, cells := 0, slots := 0, locals := 137 } : Room)) (k9 := 0) (S' := S) (N' := (bk (mPa (kp (up2 N 5 0 0)) T R k))) (w' := (bWb S T R r k).toInt64) (by rw [e1, e2]; exact h_worthIn_ok l hao (c_X0_worthIn l D cI cQ a S hI hr9 hk1 hk9)) hJ9.2.2.2.1 (mPa_row (kp (up2 N 5 0 0)) T R 0 (by decide : 5 ≠ 3) k) (fun _ => rfl) (by rw [e1, e2, hr]; exact c_X1_worthIn_ok l D cI b N hM hP hr9 hk1 hk9) ⟨rfl, rfl⟩ ⟨Nat.le_of_ble_eq_true rfl, Nat.le_of_ble_eq_true rfl⟩ (fun H1 locs1 ls1 => kx _ _ _ H1 locs1 ls1 ⟨T, R, sec, B, wt, pt, bt, u, q, hJ9, by omega, by omega, by omega⟩)
set_option maxHeartbeats 4000000 in
set_option maxRecDepth 100000 in
theorem st_pass {p : Program} {l : Launch} {e : Env} {s : State} {m : MethodId} {args : Array Value} {below : List Frame} {meth : Method} {c : Code} {H : Heap} {locs : List Loc} {cells slots : Nat} {Q : State → Prop} {ls : Array Slot} {bs L : Nat} {xs : Nat → Int32} {D : va_G} {cI cQ cL : ClassId} {a b : Nat → Nat} {o : Nat} {S N : bS} {w : Int64} {n : Nat} (hX : LX l p m c s args bs L xs a b o) (hn : 4 * n + 4 ≤ L) (hB : BW D cI cQ a S s H) (hN : MW D cI b N s H) (hO : OW D cL o w s H) (hS : va_S (A0 s) s.heap H locs) (hf : cells + 9 ≤ 601024 ∧ slots + 64 ≤ 7293034) (hl : lv_has ls 9 [(4, .int (nI (4 * n))), (0, .ref (bs)), (1, .ref (a 13)), (2, .ref (b 5)), (3, .ref (o))]) (hJn : Jn S N n) (kx : ∀ (S' N' : bS) (w' : Int64) (H1 : Heap) (locs1 : List Loc) (ls1 : Array Slot), Jn S' N' (n + 1) → BW D cI cQ a S' s H1 → MW D cI b N' s H1 → OW D cL o w' s H1 → va_S (A0 s) s.heap H1 locs1 → lv_has ls1 9 [(4, .int (nI (4 * n))), (0, .ref (bs)), (1, .ref (a 13)), (2, .ref (b 5)), (3, .ref (o))] → W p l e room_1 s m args below meth c H1 locs1 (cells + 9) (slots + 64) Q (F0 m 1559 ls1 [])) : W p l e room_1 s m args below meth c H locs cells slots Q (F0 m 456 ls []) := by
  obtain ⟨T, R, sec, B, wt, pt, bt, u, q, hJ, hs1, hB1, hB2⟩ := hJn
  obtain ⟨-, hl9, -, -, hL, -, -, -, -, -, -, hao, -⟩ := id hX
  have hI := hJ.1
  have hM := hJ.2.2.2.1
  have hP := hJ.2.2.2.2.1.mP
  have hU := hJ.2.2.2.2.1.mU
  have hJ0 := hJ.re (RE.five N 0)
  have hJk := hJ.re (RK_kp N).1
  have h8 := hI.2.2.1
  have h6 := hI.2.2.2
  by_cases hb : ∃ k : Nat, 1 ≤ k ∧ k ≤ 60 ∧ xs (4 * n + 1) = nI k
  rotate_left
  · have hJ9 := hJ.re (RE.five2 N 0 1)
    exact lc_pass hX hn hB hN hO hS hf hl (r := 0) (rm := ({ frames := 6, cells := 0, slots := 0, locals := 137 } : Room)) (k9 := 1) (S' := S) (N' := (up2 (up2 N 5 0 0) 5 0 1)) (w' := w) (by exact h_pass_1 l hao (t_X0_pass_k l hl9 D cI cQ a S hI hb)) hJ9.2.2.2.1 (up2_eq _ _ _ _) (fun z => absurd z (by decide)) (by exact c_X1_pass_f l D cI b N _ hM (isI_bad (lo := 1) (hi := 60) (by decide) (by decide) hb)) ⟨rfl, rfl⟩ ⟨Nat.le_of_ble_eq_true rfl, Nat.le_of_ble_eq_true rfl⟩ (fun H1 locs1 ls1 => kx _ _ _ H1 locs1 ls1 ⟨T, R, sec, B, wt, pt, bt, u, q, hJ9, by omega, by omega, by omega⟩)
  obtain ⟨k, hk1, hk9, e1⟩ := hb
  have hpa := hJ0.pa k (by omega) (by omega)
  have hr := hpa.2
  have hJ9 := hpa.1
  exact lc_pass hX hn hB hN hO hS hf hl (r := bPc S T R k) (rm := ({ frames := 6, cells := 0, slots := 0, locals := 137 } : Room)) (k9 := 0) (S' := (bPa S T R k)) (N' := (mPa (up2 N 5 0 0) T R k)) (w' := (bPc S T R k).toInt64) (by rw [e1]; exact h_pass_ok l hao (c_X0_pass l D cI cQ a S hI hk1 hk9)) hJ9.2.2.2.1 (mPa_row (up2 N 5 0 0) T R 0 (by decide : 5 ≠ 3) k) (fun _ => rfl) (by rw [e1, hr]; exact c_X1_pass_ok l D cI b N hM hP hk1 hk9) ⟨rfl, rfl⟩ ⟨Nat.le_of_ble_eq_true rfl, Nat.le_of_ble_eq_true rfl⟩ (fun H1 locs1 ls1 => kx _ _ _ H1 locs1 ls1 ⟨T, R, sec + k, B + 12960 * k, wt, pt, bt, _, _, hJ9, by omega, by omega, by omega⟩)
set_option maxHeartbeats 4000000 in
set_option maxRecDepth 100000 in
theorem st_addTrader {p : Program} {l : Launch} {e : Env} {s : State} {m : MethodId} {args : Array Value} {below : List Frame} {meth : Method} {c : Code} {H : Heap} {locs : List Loc} {cells slots : Nat} {Q : State → Prop} {ls : Array Slot} {bs L : Nat} {xs : Nat → Int32} {D : va_G} {cI cQ cL : ClassId} {a b : Nat → Nat} {o : Nat} {S N : bS} {w : Int64} {n : Nat} (hX : LX l p m c s args bs L xs a b o) (hn : 4 * n + 4 ≤ L) (hB : BW D cI cQ a S s H) (hN : MW D cI b N s H) (hO : OW D cL o w s H) (hS : va_S (A0 s) s.heap H locs) (hf : cells + 9 ≤ 601024 ∧ slots + 64 ≤ 7293034) (hl : lv_has ls 9 [(4, .int (nI (4 * n))), (0, .ref (bs)), (1, .ref (a 13)), (2, .ref (b 5)), (3, .ref (o))]) (hJn : Jn S N n) (kx : ∀ (S' N' : bS) (w' : Int64) (H1 : Heap) (locs1 : List Loc) (ls1 : Array Slot), Jn S' N' (n + 1) → BW D cI cQ a S' s H1 → MW D cI b N' s H1 → OW D cL o w' s H1 → va_S (A0 s) s.heap H1 locs1 → lv_has ls1 9 [(4, .int (nI (4 * n))), (0, .ref (bs)), (1, .ref (a 13)), (2, .ref (b 5)), (3, .ref (o))] → W p l e room_1 s m args below meth c H1 locs1 (cells + 9) (slots + 64) Q (F0 m 1559 ls1 [])) : W p l e room_1 s m args below meth c H locs cells slots Q (F0 m 252 ls []) := by
  obtain ⟨T, R, sec, B, wt, pt, bt, u, q, hJ, hs1, hB1, hB2⟩ := hJn
  obtain ⟨-, hl9, -, -, hL, -, -, -, -, -, -, hao, -⟩ := id hX
  have hI := hJ.1
  have hM := hJ.2.2.2.1
  have hP := hJ.2.2.2.2.1.mP
  have hU := hJ.2.2.2.2.1.mU
  have hJ0 := hJ.re (RE.five N 0)
  have hJk := hJ.re (RK_kp N).1
  have h8 := hI.2.2.1
  have h6 := hI.2.2.2
  by_cases hb : R < 6
  rotate_left
  · have hJ9 := hJ.re (RE.five2 N 0 1)
    exact lc_addTrader hX hn hB hN hO hS hf hl (r := 0) (rm := ({ frames := 1, cells := 0, slots := 0, locals := 21 } : Room)) (k9 := 1) (S' := S) (N' := (up2 (up2 N 5 0 0) 5 0 1)) (w' := w) (by exact h_addTrader_1 l hao (t_X0_addTrader l hl9 D cI cQ a S hI hb)) hJ9.2.2.2.1 (up2_eq _ _ _ _) (fun z => absurd z (by decide)) (by exact c_X1_addTrader_f l D cI b N hM (by omega)) ⟨rfl, rfl⟩ ⟨Nat.le_of_ble_eq_true rfl, Nat.le_of_ble_eq_true rfl⟩ (fun H1 locs1 ls1 => kx _ _ _ H1 locs1 ls1 ⟨T, R, sec, B, wt, pt, bt, u, q, hJ9, by omega, by omega, by omega⟩)
  have hJ9 := hJ.addT hb hB1
  exact lc_addTrader hX hn hB hN hO hS hf hl (r := nI R) (rm := ({ frames := 1, cells := 0, slots := 0, locals := 21 } : Room)) (k9 := 0) (S' := (up2 (up2 S 5 R 100) 6 2 (nI (R + 1)))) (N' := (up2 (up2 (up2 N 5 0 0) 3 (17 + R) 100) 5 2 (nI (R + 1)))) (w' := (nI R).toInt64) (by exact h_addTrader_ok l hao (c_X0_addTrader l D cI cQ a S hI hb)) hJ9.2.2.2.1 (rfl) (fun _ => rfl) (by exact c_X1_addTrader_ok l D cI b N hM hb) ⟨rfl, rfl⟩ ⟨Nat.le_of_ble_eq_true rfl, Nat.le_of_ble_eq_true rfl⟩ (fun H1 locs1 ls1 => kx _ _ _ H1 locs1 ls1 ⟨T, R + 1, sec, B, wt, pt, bt, u, q, hJ9, by omega, by omega, by omega⟩)
set_option maxHeartbeats 4000000 in
set_option maxRecDepth 100000 in
theorem st_buy {p : Program} {l : Launch} {e : Env} {s : State} {m : MethodId} {args : Array Value} {below : List Frame} {meth : Method} {c : Code} {H : Heap} {locs : List Loc} {cells slots : Nat} {Q : State → Prop} {ls : Array Slot} {bs L : Nat} {xs : Nat → Int32} {D : va_G} {cI cQ cL : ClassId} {a b : Nat → Nat} {o : Nat} {S N : bS} {w : Int64} {n : Nat} (hX : LX l p m c s args bs L xs a b o) (hn : 4 * n + 4 ≤ L) (hB : BW D cI cQ a S s H) (hN : MW D cI b N s H) (hO : OW D cL o w s H) (hS : va_S (A0 s) s.heap H locs) (hf : cells + 9 ≤ 601024 ∧ slots + 64 ≤ 7293034) (hl : lv_has ls 9 [(4, .int (nI (4 * n))), (0, .ref (bs)), (1, .ref (a 13)), (2, .ref (b 5)), (3, .ref (o))]) (hJn : Jn S N n) (kx : ∀ (S' N' : bS) (w' : Int64) (H1 : Heap) (locs1 : List Loc) (ls1 : Array Slot), Jn S' N' (n + 1) → BW D cI cQ a S' s H1 → MW D cI b N' s H1 → OW D cL o w' s H1 → va_S (A0 s) s.heap H1 locs1 → lv_has ls1 9 [(4, .int (nI (4 * n))), (0, .ref (bs)), (1, .ref (a 13)), (2, .ref (b 5)), (3, .ref (o))] → W p l e room_1 s m args below meth c H1 locs1 (cells + 9) (slots + 64) Q (F0 m 1559 ls1 [])) : W p l e room_1 s m args below meth c H locs cells slots Q (F0 m 296 ls []) := by
  obtain ⟨T, R, sec, B, wt, pt, bt, u, q, hJ, hs1, hB1, hB2⟩ := hJn
  obtain ⟨-, hl9, -, -, hL, -, -, -, -, -, -, hao, -⟩ := id hX
  have hI := hJ.1
  have hM := hJ.2.2.2.1
  have hP := hJ.2.2.2.2.1.mP
  have hU := hJ.2.2.2.2.1.mU
  have hJ0 := hJ.re (RE.five N 0)
  have hJk := hJ.re (RK_kp N).1
  have h8 := hI.2.2.1
  have h6 := hI.2.2.2
  by_cases hb : ∃ r : Nat, r < R ∧ xs (4 * n + 1) = nI r
  rotate_left
  · have hJ9 := hJ.re (RE.five N 1)
    exact lc_buy hX hn hB hN hO hS hf hl (r := 0) (rm := ({ frames := 4, cells := 0, slots := 0, locals := 90 } : Room)) (k9 := 1) (S' := S) (N' := (up2 N 5 0 1)) (w' := w) (by exact h_buy_1 l hao (t_X0_buy_r l hl9 D cI cQ a S hI hb)) hJ9.2.2.2.1 (up2_eq _ _ _ _) (fun z => absurd z (by decide)) (by exact c_X1_buy_tr l D cI b N _ _ _ hM (isI_badT (by omega) hb)) ⟨rfl, rfl⟩ ⟨Nat.le_of_ble_eq_true rfl, Nat.le_of_ble_eq_true rfl⟩ (fun H1 locs1 ls1 => kx _ _ _ H1 locs1 ls1 ⟨T, R, sec, B, wt, pt, bt, u, q, hJ9, by omega, by omega, by omega⟩)
  obtain ⟨r, hr9, e1⟩ := hb
  by_cases hb : ∃ t : Nat, t < T ∧ xs (4 * n + 2) = nI t
  rotate_left
  · have hJ9 := hJ.re (RE.five N 1)
    exact lc_buy hX hn hB hN hO hS hf hl (r := 0) (rm := ({ frames := 4, cells := 0, slots := 0, locals := 90 } : Room)) (k9 := 1) (S' := S) (N' := (up2 N 5 0 1)) (w' := w) (by rw [e1]; exact h_buy_1 l hao (t_X0_buy_t l hl9 D cI cQ a S hI hr9 hb)) hJ9.2.2.2.1 (up2_eq _ _ _ _) (fun z => absurd z (by decide)) (by rw [e1]; exact c_X1_buy_to l D cI b N _ _ hM hr9 (isI_badT (by omega) hb)) ⟨rfl, rfl⟩ ⟨Nat.le_of_ble_eq_true rfl, Nat.le_of_ble_eq_true rfl⟩ (fun H1 locs1 ls1 => kx _ _ _ H1 locs1 ls1 ⟨T, R, sec, B, wt, pt, bt, u, q, hJ9, by omega, by omega, by omega⟩)
  obtain ⟨t, ht, e2⟩ := hb
  by_cases hb : ∃ k : Nat, 1 ≤ k ∧ k ≤ 9 ∧ xs (4 * n + 3) = nI k
  rotate_left
  · have hJ9 := hJ.re (RE.five N 2)
    exact lc_buy hX hn hB hN hO hS hf hl (r := 0) (rm := ({ frames := 4, cells := 0, slots := 0, locals := 90 } : Room)) (k9 := 2) (S' := S) (N' := (up2 N 5 0 2)) (w' := w) (by rw [e1, e2]; exact h_buy_2 l hao (t_X0_buy_k l hl9 D cI cQ a S hI hr9 ht hb)) hJ9.2.2.2.1 (up2_eq _ _ _ _) (fun z => absurd z (by decide)) (by rw [e1, e2]; exact c_X1_buy_se l D cI b N _ hM hr9 ht (isI_bad (lo := 1) (hi := 9) (by decide) (by decide) hb)) ⟨rfl, rfl⟩ ⟨Nat.le_of_ble_eq_true rfl, Nat.le_of_ble_eq_true rfl⟩ (fun H1 locs1 ls1 => kx _ _ _ H1 locs1 ls1 ⟨T, R, sec, B, wt, pt, bt, u, q, hJ9, by omega, by omega, by omega⟩)
  obtain ⟨k, hk1, hk9, e3⟩ := hb
  have hh := hJ.2.1.2.1 r t (by omega) (by omega)
  have hpu := hJ.2.1.1 r (by omega)
  have hr := hJ0.prc ht
  have hH := (hJ.2.2.2.2.2.1 r t (by omega) (by omega)).1
  have hPB := hJ.2.2.2.2.2.2.2 r hr9
  have hp9 := hJ0.2.2.2.pr ht
  have hpd := paid_bd hp9.1 hp9.2 hk9
  have ek := nI_toInt (n := k) (by omega)
  by_cases h1 : S (7 + r) t + nI k ≤ 9
  rotate_left
  · have hJ9 := hJ.re (RE.five2 N 0 3)
    exact lc_buy hX hn hB hN hO hS hf hl (r := 0) (rm := ({ frames := 4, cells := 0, slots := 0, locals := 90 } : Room)) (k9 := 3) (S' := S) (N' := (up2 (up2 N 5 0 0) 5 0 3)) (w' := w) (by rw [e1, e2, e3]; exact h_buy_3 l hao (t_X0_buy_l l hl9 D cI cQ a S hI hr9 ht hk1 hk9 h1)) hJ9.2.2.2.1 (up2_eq _ _ _ _) (fun z => absurd z (by decide)) (by rw [e1, e2, e3]; exact c_X1_buy_f1 l D cI b N hM hr9 ht hk1 hk9 (by rw [← hh]; exact Int32.not_le.mp h1)) ⟨rfl, rfl⟩ ⟨Nat.le_of_ble_eq_true rfl, Nat.le_of_ble_eq_true rfl⟩ (fun H1 locs1 ls1 => kx _ _ _ H1 locs1 ls1 ⟨T, R, sec, B, wt, pt, bt, u, q, hJ9, by omega, by omega, by omega⟩)
  have h1m : ¬ 9 < N 3 (23 + 8 * r + t) + nI k := by rw [← hh]; exact Int32.not_lt.mpr h1
  by_cases h2 : bPr S R t * nI k ≤ S 5 r
  rotate_left
  · have hJ9 := hJ.re (RE.five2 N 0 3)
    exact lc_buy hX hn hB hN hO hS hf hl (r := 0) (rm := ({ frames := 4, cells := 0, slots := 0, locals := 90 } : Room)) (k9 := 3) (S' := S) (N' := (up2 (up2 N 5 0 0) 5 0 3)) (w' := w) (by rw [e1, e2, e3]; exact h_buy_3 l hao (t_X0_buy_p l hl9 D cI cQ a S hI hr9 ht hk1 hk9 h1 h2)) hJ9.2.2.2.1 (up2_eq _ _ _ _) (fun z => absurd z (by decide)) (by rw [e1, e2, e3]; exact c_X1_buy_f2 l D cI b N hM hr9 ht hk1 hk9 h1m (by rw [← hr, ← hpu]; exact h2)) ⟨rfl, rfl⟩ ⟨Nat.le_of_ble_eq_true rfl, Nat.le_of_ble_eq_true rfl⟩ (fun H1 locs1 ls1 => kx _ _ _ H1 locs1 ls1 ⟨T, R, sec, B, wt, pt, bt, u, q, hJ9, by omega, by omega, by omega⟩)
  have h1i := Int32.le_iff_toInt_le.mp h1
  rw [hh] at h1i
  have e9 : (9 : Int32).toInt = 9 := by decide
  have es9 := tI_add (a := N 3 (23 + 8 * r + t)) (b := nI k) (by omega) (by omega)
  have ed9 := tI_sub (a := N 3 (17 + r)) (b := mPr (up2 N 5 0 0) R t * nI k) (by omega) (by omega)
  have hJ9 := hJ0.trade hr9 ht (a := S 5 r - bPr S R t * nI k) (a' := N 3 (17 + r) - mPr (up2 N 5 0 0) R t * nI k) (b := S (7 + r) t + nI k) (b' := N 3 (23 + 8 * r + t) + nI k) (by rw [hpu, hr]) (by rw [hh]) (by omega) (by omega)
  exact lc_buy hX hn hB hN hO hS hf hl (r := bPr S R t * nI k) (rm := ({ frames := 4, cells := 0, slots := 0, locals := 90 } : Room)) (k9 := 0) (S' := (up2 (up2 S 5 r (S 5 r - bPr S R t * nI k)) (7 + r) t (S (7 + r) t + nI k))) (N' := (up2 (up2 (up2 N 5 0 0) 3 (23 + 8 * r + t) (N 3 (23 + 8 * r + t) + nI k)) 3 (17 + r) (N 3 (17 + r) - mPr (up2 N 5 0 0) R t * nI k))) (w' := (bPr S R t * nI k).toInt64) (by rw [e1, e2, e3]; exact h_buy_ok l hao (c_X0_buy l D cI cQ a S hI hr9 ht hk1 hk9 h1 h2)) hJ9.2.2.2.1 (rfl) (fun _ => rfl) (by rw [e1, e2, e3, hr]; exact c_X1_buy_ok l D cI b N hM hr9 ht hk1 hk9 h1m (by rw [← hr, ← hpu]; exact h2)) ⟨rfl, rfl⟩ ⟨Nat.le_of_ble_eq_true rfl, Nat.le_of_ble_eq_true rfl⟩ (fun H1 locs1 ls1 => kx _ _ _ H1 locs1 ls1 ⟨T, R, sec, B + 1620, wt, pt, bt, u, q, hJ9, by omega, by omega, by omega⟩)
set_option maxHeartbeats 4000000 in
set_option maxRecDepth 100000 in
theorem st_sell {p : Program} {l : Launch} {e : Env} {s : State} {m : MethodId} {args : Array Value} {below : List Frame} {meth : Method} {c : Code} {H : Heap} {locs : List Loc} {cells slots : Nat} {Q : State → Prop} {ls : Array Slot} {bs L : Nat} {xs : Nat → Int32} {D : va_G} {cI cQ cL : ClassId} {a b : Nat → Nat} {o : Nat} {S N : bS} {w : Int64} {n : Nat} (hX : LX l p m c s args bs L xs a b o) (hn : 4 * n + 4 ≤ L) (hB : BW D cI cQ a S s H) (hN : MW D cI b N s H) (hO : OW D cL o w s H) (hS : va_S (A0 s) s.heap H locs) (hf : cells + 9 ≤ 601024 ∧ slots + 64 ≤ 7293034) (hl : lv_has ls 9 [(4, .int (nI (4 * n))), (0, .ref (bs)), (1, .ref (a 13)), (2, .ref (b 5)), (3, .ref (o))]) (hJn : Jn S N n) (kx : ∀ (S' N' : bS) (w' : Int64) (H1 : Heap) (locs1 : List Loc) (ls1 : Array Slot), Jn S' N' (n + 1) → BW D cI cQ a S' s H1 → MW D cI b N' s H1 → OW D cL o w' s H1 → va_S (A0 s) s.heap H1 locs1 → lv_has ls1 9 [(4, .int (nI (4 * n))), (0, .ref (bs)), (1, .ref (a 13)), (2, .ref (b 5)), (3, .ref (o))] → W p l e room_1 s m args below meth c H1 locs1 (cells + 9) (slots + 64) Q (F0 m 1559 ls1 [])) : W p l e room_1 s m args below meth c H locs cells slots Q (F0 m 376 ls []) := by
  obtain ⟨T, R, sec, B, wt, pt, bt, u, q, hJ, hs1, hB1, hB2⟩ := hJn
  obtain ⟨-, hl9, -, -, hL, -, -, -, -, -, -, hao, -⟩ := id hX
  have hI := hJ.1
  have hM := hJ.2.2.2.1
  have hP := hJ.2.2.2.2.1.mP
  have hU := hJ.2.2.2.2.1.mU
  have hJ0 := hJ.re (RE.five N 0)
  have hJk := hJ.re (RK_kp N).1
  have h8 := hI.2.2.1
  have h6 := hI.2.2.2
  by_cases hb : ∃ r : Nat, r < R ∧ xs (4 * n + 1) = nI r
  rotate_left
  · have hJ9 := hJ.re (RE.five N 1)
    exact lc_sell hX hn hB hN hO hS hf hl (r := 0) (rm := ({ frames := 5, cells := 0, slots := 0, locals := 114 } : Room)) (k9 := 1) (S' := S) (N' := (up2 N 5 0 1)) (w' := w) (by exact h_sell_1 l hao (t_X0_sell_r l hl9 D cI cQ a S hI hb)) hJ9.2.2.2.1 (up2_eq _ _ _ _) (fun z => absurd z (by decide)) (by exact c_X1_sell_tr l D cI b N _ _ _ hM (isI_badT (by omega) hb)) ⟨rfl, rfl⟩ ⟨Nat.le_of_ble_eq_true rfl, Nat.le_of_ble_eq_true rfl⟩ (fun H1 locs1 ls1 => kx _ _ _ H1 locs1 ls1 ⟨T, R, sec, B, wt, pt, bt, u, q, hJ9, by omega, by omega, by omega⟩)
  obtain ⟨r, hr9, e1⟩ := hb
  by_cases hb : ∃ t : Nat, t < T ∧ xs (4 * n + 2) = nI t
  rotate_left
  · have hJ9 := hJ.re (RE.five N 1)
    exact lc_sell hX hn hB hN hO hS hf hl (r := 0) (rm := ({ frames := 5, cells := 0, slots := 0, locals := 114 } : Room)) (k9 := 1) (S' := S) (N' := (up2 N 5 0 1)) (w' := w) (by rw [e1]; exact h_sell_1 l hao (t_X0_sell_t l hl9 D cI cQ a S hI hr9 hb)) hJ9.2.2.2.1 (up2_eq _ _ _ _) (fun z => absurd z (by decide)) (by rw [e1]; exact c_X1_sell_to l D cI b N _ _ hM hr9 (isI_badT (by omega) hb)) ⟨rfl, rfl⟩ ⟨Nat.le_of_ble_eq_true rfl, Nat.le_of_ble_eq_true rfl⟩ (fun H1 locs1 ls1 => kx _ _ _ H1 locs1 ls1 ⟨T, R, sec, B, wt, pt, bt, u, q, hJ9, by omega, by omega, by omega⟩)
  obtain ⟨t, ht, e2⟩ := hb
  by_cases hb : ∃ k : Nat, 1 ≤ k ∧ k ≤ 9 ∧ xs (4 * n + 3) = nI k
  rotate_left
  · have hJ9 := hJ.re (RE.five N 2)
    exact lc_sell hX hn hB hN hO hS hf hl (r := 0) (rm := ({ frames := 5, cells := 0, slots := 0, locals := 114 } : Room)) (k9 := 2) (S' := S) (N' := (up2 N 5 0 2)) (w' := w) (by rw [e1, e2]; exact h_sell_2 l hao (t_X0_sell_k l hl9 D cI cQ a S hI hr9 ht hb)) hJ9.2.2.2.1 (up2_eq _ _ _ _) (fun z => absurd z (by decide)) (by rw [e1, e2]; exact c_X1_sell_se l D cI b N _ hM hr9 ht (isI_bad (lo := 1) (hi := 9) (by decide) (by decide) hb)) ⟨rfl, rfl⟩ ⟨Nat.le_of_ble_eq_true rfl, Nat.le_of_ble_eq_true rfl⟩ (fun H1 locs1 ls1 => kx _ _ _ H1 locs1 ls1 ⟨T, R, sec, B, wt, pt, bt, u, q, hJ9, by omega, by omega, by omega⟩)
  obtain ⟨k, hk1, hk9, e3⟩ := hb
  have hh := hJ.2.1.2.1 r t (by omega) (by omega)
  have hpu := hJ.2.1.1 r (by omega)
  have hr := hJ0.prc ht
  have hH := (hJ.2.2.2.2.2.1 r t (by omega) (by omega)).1
  have hPB := hJ.2.2.2.2.2.2.2 r hr9
  have hp9 := hJ0.2.2.2.pr ht
  have hpd := paid_bd hp9.1 hp9.2 hk9
  have ek := nI_toInt (n := k) (by omega)
  by_cases h1 : -9 ≤ S (7 + r) t - nI k
  rotate_left
  · have hJ9 := hJ.re (RE.five2 N 0 3)
    exact lc_sell hX hn hB hN hO hS hf hl (r := 0) (rm := ({ frames := 5, cells := 0, slots := 0, locals := 114 } : Room)) (k9 := 3) (S' := S) (N' := (up2 (up2 N 5 0 0) 5 0 3)) (w' := w) (by rw [e1, e2, e3]; exact h_sell_3 l hao (t_X0_sell_l l hl9 D cI cQ a S hI hr9 ht hk1 hk9 h1)) hJ9.2.2.2.1 (up2_eq _ _ _ _) (fun z => absurd z (by decide)) (by rw [e1, e2, e3]; exact c_X1_sell_f1 l D cI b N hM hr9 ht hk1 hk9 (by rw [← hh]; exact h1)) ⟨rfl, rfl⟩ ⟨Nat.le_of_ble_eq_true rfl, Nat.le_of_ble_eq_true rfl⟩ (fun H1 locs1 ls1 => kx _ _ _ H1 locs1 ls1 ⟨T, R, sec, B, wt, pt, bt, u, q, hJ9, by omega, by omega, by omega⟩)
  have h1i := Int32.le_iff_toInt_le.mp h1
  rw [hh] at h1i
  have e9 : (-9 : Int32).toInt = -9 := by decide
  have es9 := tI_sub (a := N 3 (23 + 8 * r + t)) (b := nI k) (by omega) (by omega)
  have ed9 := tI_add (a := N 3 (17 + r)) (b := mPr (up2 N 5 0 0) R t * nI k) (by omega) (by omega)
  have hJ9 := hJ0.trade hr9 ht (a := S 5 r + bPr S R t * nI k) (a' := N 3 (17 + r) + mPr (up2 N 5 0 0) R t * nI k) (b := S (7 + r) t - nI k) (b' := N 3 (23 + 8 * r + t) - nI k) (by rw [hpu, hr]) (by rw [hh]) (by omega) (by omega)
  exact lc_sell hX hn hB hN hO hS hf hl (r := bPr S R t * nI k) (rm := ({ frames := 5, cells := 0, slots := 0, locals := 114 } : Room)) (k9 := 0) (S' := (up2 (up2 S 5 r (S 5 r + bPr S R t * nI k)) (7 + r) t (S (7 + r) t - nI k))) (N' := (mSo (up2 N 5 0 0) R r t k)) (w' := (bPr S R t * nI k).toInt64) (by rw [e1, e2, e3]; exact h_sell_ok l hao (c_X0_sell l D cI cQ a S hI hr9 ht hk1 hk9 h1)) hJ9.2.2.2.1 (rfl) (fun _ => rfl) (by rw [e1, e2, e3, hr]; exact c_X1_sell_ok l D cI b N hM hr9 ht hk1 hk9 (by rw [← hh]; exact h1)) ⟨rfl, rfl⟩ ⟨Nat.le_of_ble_eq_true rfl, Nat.le_of_ble_eq_true rfl⟩ (fun H1 locs1 ls1 => kx _ _ _ H1 locs1 ls1 ⟨T, R, sec, B + 1620, wt, pt, bt, u, q, hJ9, by omega, by omega, by omega⟩)
set_option maxHeartbeats 4000000 in
set_option maxRecDepth 100000 in
theorem st_list {p : Program} {l : Launch} {e : Env} {s : State} {m : MethodId} {args : Array Value} {below : List Frame} {meth : Method} {c : Code} {H : Heap} {locs : List Loc} {cells slots : Nat} {Q : State → Prop} {ls : Array Slot} {bs L : Nat} {xs : Nat → Int32} {D : va_G} {cI cQ cL : ClassId} {a b : Nat → Nat} {o : Nat} {S N : bS} {w : Int64} {n : Nat} (hX : LX l p m c s args bs L xs a b o) (hn : 4 * n + 4 ≤ L) (hB : BW D cI cQ a S s H) (hN : MW D cI b N s H) (hO : OW D cL o w s H) (hS : va_S (A0 s) s.heap H locs) (hf : cells + 9 ≤ 601024 ∧ slots + 64 ≤ 7293034) (hl : lv_has ls 9 [(4, .int (nI (4 * n))), (0, .ref (bs)), (1, .ref (a 13)), (2, .ref (b 5)), (3, .ref (o))]) (hJn : Jn S N n) (kx : ∀ (S' N' : bS) (w' : Int64) (H1 : Heap) (locs1 : List Loc) (ls1 : Array Slot), Jn S' N' (n + 1) → BW D cI cQ a S' s H1 → MW D cI b N' s H1 → OW D cL o w' s H1 → va_S (A0 s) s.heap H1 locs1 → lv_has ls1 9 [(4, .int (nI (4 * n))), (0, .ref (bs)), (1, .ref (a 13)), (2, .ref (b 5)), (3, .ref (o))] → W p l e room_1 s m args below meth c H1 locs1 (cells + 9) (slots + 64) Q (F0 m 1559 ls1 [])) : W p l e room_1 s m args below meth c H locs cells slots Q (F0 m 172 ls []) := by
  obtain ⟨T, R, sec, B, wt, pt, bt, u, q, hJ, hs1, hB1, hB2⟩ := hJn
  obtain ⟨-, hl9, -, -, hL, -, -, -, -, -, -, hao, -⟩ := id hX
  have hI := hJ.1
  have hM := hJ.2.2.2.1
  have hP := hJ.2.2.2.2.1.mP
  have hU := hJ.2.2.2.2.1.mU
  have hJ0 := hJ.re (RE.five N 0)
  have hJk := hJ.re (RK_kp N).1
  have h8 := hI.2.2.1
  have h6 := hI.2.2.2
  by_cases hb : ∃ k : Nat, 1 ≤ k ∧ k ≤ 9 ∧ xs (4 * n + 1) = nI k
  rotate_left
  · have hJ9 := hJ.re (RE.five2 N 0 1)
    exact lc_list hX hn hB hN hO hS hf hl (r := 0) (rm := ({ frames := 1, cells := 0, slots := 0, locals := 22 } : Room)) (k9 := 1) (S' := S) (N' := (up2 (up2 N 5 0 0) 5 0 1)) (w' := w) (by exact h_list_1 l hao (t_X0_list_w l hl9 D cI cQ a S hI hb)) hJ9.2.2.2.1 (up2_eq _ _ _ _) (fun z => absurd z (by decide)) (by exact c_X1_list_fa l D cI b N _ _ _ hM (isI_bad (lo := 1) (hi := 9) (by decide) (by decide) hb)) ⟨rfl, rfl⟩ ⟨Nat.le_of_ble_eq_true rfl, Nat.le_of_ble_eq_true rfl⟩ (fun H1 locs1 ls1 => kx _ _ _ H1 locs1 ls1 ⟨T, R, sec, B, wt, pt, bt, u, q, hJ9, by omega, by omega, by omega⟩)
  obtain ⟨w0, hw1, hw9, e1⟩ := hb
  by_cases hb : ∃ k : Nat, 2 ≤ k ∧ k ≤ 20 ∧ xs (4 * n + 2) = nI k
  rotate_left
  · have hJ9 := hJ.re (RE.five2 N 0 1)
    exact lc_list hX hn hB hN hO hS hf hl (r := 0) (rm := ({ frames := 1, cells := 0, slots := 0, locals := 22 } : Room)) (k9 := 1) (S' := S) (N' := (up2 (up2 N 5 0 0) 5 0 1)) (w' := w) (by rw [e1]; exact h_list_1 l hao (t_X0_list_p l hl9 D cI cQ a S hI hw1 hw9 hb)) hJ9.2.2.2.1 (up2_eq _ _ _ _) (fun z => absurd z (by decide)) (by rw [e1]; exact c_X1_list_fb l D cI b N _ _ hM hw1 hw9 (isI_bad (lo := 2) (hi := 20) (by decide) (by decide) hb)) ⟨rfl, rfl⟩ ⟨Nat.le_of_ble_eq_true rfl, Nat.le_of_ble_eq_true rfl⟩ (fun H1 locs1 ls1 => kx _ _ _ H1 locs1 ls1 ⟨T, R, sec, B, wt, pt, bt, u, q, hJ9, by omega, by omega, by omega⟩)
  obtain ⟨p0, hp2, hp20, e2⟩ := hb
  by_cases hb : ∃ t : Nat, t < p0 ∧ xs (4 * n + 3) = nI t
  rotate_left
  · have hJ9 := hJ.re (RE.five2 N 0 1)
    exact lc_list hX hn hB hN hO hS hf hl (r := 0) (rm := ({ frames := 1, cells := 0, slots := 0, locals := 22 } : Room)) (k9 := 1) (S' := S) (N' := (up2 (up2 N 5 0 0) 5 0 1)) (w' := w) (by rw [e1, e2]; exact h_list_1 l hao (t_X0_list_b l hl9 D cI cQ a S hI hw1 hw9 hp2 hp20 hb)) hJ9.2.2.2.1 (up2_eq _ _ _ _) (fun z => absurd z (by decide)) (by rw [e1, e2]; exact c_X1_list_fc l D cI b N _ hM hw1 hw9 hp2 hp20 (isI_bad (lo := 0) (hi := p0 - 1) (by omega) (by decide) (fun ⟨k, _, z2, z3⟩ => hb ⟨k, by omega, z3⟩))) ⟨rfl, rfl⟩ ⟨Nat.le_of_ble_eq_true rfl, Nat.le_of_ble_eq_true rfl⟩ (fun H1 locs1 ls1 => kx _ _ _ H1 locs1 ls1 ⟨T, R, sec, B, wt, pt, bt, u, q, hJ9, by omega, by omega, by omega⟩)
  obtain ⟨b0, hb0, e3⟩ := hb
  by_cases hb : T < 8
  rotate_left
  · have hJ9 := hJ.re (RE.five2 N 0 2)
    exact lc_list hX hn hB hN hO hS hf hl (r := 0) (rm := ({ frames := 1, cells := 0, slots := 0, locals := 22 } : Room)) (k9 := 2) (S' := S) (N' := (up2 (up2 N 5 0 0) 5 0 2)) (w' := w) (by rw [e1, e2, e3]; exact h_list_2 l hao (t_X0_list_8 l hl9 D cI cQ a S hI hb hw1 hw9 hp2 hp20 hb0)) hJ9.2.2.2.1 (up2_eq _ _ _ _) (fun z => absurd z (by decide)) (by rw [e1, e2, e3]; exact c_X1_list_f2 l D cI b N hM (by omega) hw1 hw9 hp2 hp20 hb0) ⟨rfl, rfl⟩ ⟨Nat.le_of_ble_eq_true rfl, Nat.le_of_ble_eq_true rfl⟩ (fun H1 locs1 ls1 => kx _ _ _ H1 locs1 ls1 ⟨T, R, sec, B, wt, pt, bt, u, q, hJ9, by omega, by omega, by omega⟩)
  have hsec : S 6 0 = nI sec := hJ.2.1.2.2.2.2.trans hJ.2.2.2.2.1.1
  obtain ⟨z, hz1, hz2, hz3⟩ := flm_z (b0 := b0) (sec := sec) hb0 hp2 hp20 (by omega)
  rw [← hsec] at hz1
  have hv : (if flm (nI b0 - S 6 0) (nI p0) = 0 then nI p0 else flm (nI b0 - S 6 0) (nI p0)) = nI (if z = 0 then p0 else z) := by
    rw [hz1]
    by_cases hz : z = 0
    · rw [if_pos hz, hz]
      exact if_pos rfl
    · rw [if_neg hz, if_neg (nI_ne0 (by omega) (by omega))]
  have hz9 : 1 ≤ (if z = 0 then p0 else z) ∧ (if z = 0 then p0 else z) ≤ p0 := by split <;> omega
  have hzm : (sec + (if z = 0 then p0 else z)) % p0 = b0 := by
    by_cases hz : z = 0
    · rw [if_pos hz, Nat.add_mod_right]
      rw [hz, Nat.add_zero] at hz3
      exact hz3
    · rw [if_neg hz]
      exact hz3
  have hJ9 := hJ.list hb ⟨hw1, hw9⟩ ⟨hp2, hp20⟩ hb0 hv hz9 hzm
  exact lc_list hX hn hB hN hO hS hf hl (r := nI T) (rm := ({ frames := 1, cells := 0, slots := 0, locals := 22 } : Room)) (k9 := 0) (S' := (up2 (up2 (up2 (up2 S 0 T (nI w0)) 1 T (nI p0)) 3 T (if flm (nI b0 - S 6 0) (nI p0) = 0 then nI p0 else flm (nI b0 - S 6 0) (nI p0))) 6 1 (nI (T + 1)))) (N' := (up2 (up2 (up2 (up2 (up2 N 5 0 0) 0 T (nI w0)) 1 T (nI p0)) 2 T (nI b0)) 5 1 (nI (T + 1)))) (w' := (nI T).toInt64) (by rw [e1, e2, e3]; exact h_list_ok l hao (c_X0_list l D cI cQ a S hI hb hw1 hw9 hp2 hp20 hb0)) hJ9.2.2.2.1 (rfl) (fun _ => rfl) (by rw [e1, e2, e3]; exact c_X1_list_ok l D cI b N hM hb hw1 hw9 hp2 hp20 hb0) ⟨rfl, rfl⟩ ⟨Nat.le_of_ble_eq_true rfl, Nat.le_of_ble_eq_true rfl⟩ (fun H1 locs1 ls1 => kx _ _ _ H1 locs1 ls1 ⟨T + 1, R, sec, B, _, _, _, _, _, hJ9, by omega, by omega, by omega⟩)
set_option maxHeartbeats 4000000 in
set_option maxRecDepth 100000 in
theorem st_second {p : Program} {l : Launch} {e : Env} {s : State} {m : MethodId} {args : Array Value} {below : List Frame} {meth : Method} {c : Code} {H : Heap} {locs : List Loc} {cells slots : Nat} {Q : State → Prop} {ls : Array Slot} {bs L : Nat} {xs : Nat → Int32} {D : va_G} {cI cQ cL : ClassId} {a b : Nat → Nat} {o : Nat} {S N : bS} {w : Int64} {n : Nat} (hX : LX l p m c s args bs L xs a b o) (hn : 4 * n + 4 ≤ L) (hB : BW D cI cQ a S s H) (hN : MW D cI b N s H) (hO : OW D cL o w s H) (hS : va_S (A0 s) s.heap H locs) (hf : cells + 9 ≤ 601024 ∧ slots + 64 ≤ 7293034) (hl : lv_has ls 9 [(4, .int (nI (4 * n))), (0, .ref (bs)), (1, .ref (a 13)), (2, .ref (b 5)), (3, .ref (o))]) (hJn : Jn S N n) (kx : ∀ (S' N' : bS) (w' : Int64) (H1 : Heap) (locs1 : List Loc) (ls1 : Array Slot), Jn S' N' (n + 1) → BW D cI cQ a S' s H1 → MW D cI b N' s H1 → OW D cL o w' s H1 → va_S (A0 s) s.heap H1 locs1 → lv_has ls1 9 [(4, .int (nI (4 * n))), (0, .ref (bs)), (1, .ref (a 13)), (2, .ref (b 5)), (3, .ref (o))] → W p l e room_1 s m args below meth c H1 locs1 (cells + 9) (slots + 64) Q (F0 m 1559 ls1 [])) : W p l e room_1 s m args below meth c H locs cells slots Q (F0 m 512 ls []) := by
  obtain ⟨T, R, sec, B, wt, pt, bt, u, q, hJ, hs1, hB1, hB2⟩ := hJn
  obtain ⟨-, hl9, -, -, hL, -, -, -, -, -, -, hao, -⟩ := id hX
  have hI := hJ.1
  have hM := hJ.2.2.2.1
  have hP := hJ.2.2.2.2.1.mP
  have hU := hJ.2.2.2.2.1.mU
  have hJ0 := hJ.re (RE.five N 0)
  have hJk := hJ.re (RK_kp N).1
  have h8 := hI.2.2.1
  have h6 := hI.2.2.2
  have hr := hJ.2.1.2.2.2.2
  exact lc_second hX hn hB hN hO hS hf hl (r := S 6 0) (rm := ({ frames := 1, cells := 0, slots := 0, locals := 21 } : Room)) (N' := (up2 N 5 0 0)) (c_X0_second l D cI cQ a S hI) (by rw [hr]; exact c_X1_second_ok l D cI b N hM) ⟨rfl, rfl⟩ ⟨Nat.le_of_ble_eq_true rfl, Nat.le_of_ble_eq_true rfl⟩ (fun H1 locs1 ls1 => kx _ _ _ H1 locs1 ls1 ⟨T, R, sec, B, wt, pt, bt, u, q, hJ0, by omega, by omega, by omega⟩)
set_option maxHeartbeats 4000000 in
set_option maxRecDepth 100000 in
theorem st_towers {p : Program} {l : Launch} {e : Env} {s : State} {m : MethodId} {args : Array Value} {below : List Frame} {meth : Method} {c : Code} {H : Heap} {locs : List Loc} {cells slots : Nat} {Q : State → Prop} {ls : Array Slot} {bs L : Nat} {xs : Nat → Int32} {D : va_G} {cI cQ cL : ClassId} {a b : Nat → Nat} {o : Nat} {S N : bS} {w : Int64} {n : Nat} (hX : LX l p m c s args bs L xs a b o) (hn : 4 * n + 4 ≤ L) (hB : BW D cI cQ a S s H) (hN : MW D cI b N s H) (hO : OW D cL o w s H) (hS : va_S (A0 s) s.heap H locs) (hf : cells + 9 ≤ 601024 ∧ slots + 64 ≤ 7293034) (hl : lv_has ls 9 [(4, .int (nI (4 * n))), (0, .ref (bs)), (1, .ref (a 13)), (2, .ref (b 5)), (3, .ref (o))]) (hJn : Jn S N n) (kx : ∀ (S' N' : bS) (w' : Int64) (H1 : Heap) (locs1 : List Loc) (ls1 : Array Slot), Jn S' N' (n + 1) → BW D cI cQ a S' s H1 → MW D cI b N' s H1 → OW D cL o w' s H1 → va_S (A0 s) s.heap H1 locs1 → lv_has ls1 9 [(4, .int (nI (4 * n))), (0, .ref (bs)), (1, .ref (a 13)), (2, .ref (b 5)), (3, .ref (o))] → W p l e room_1 s m args below meth c H1 locs1 (cells + 9) (slots + 64) Q (F0 m 1559 ls1 [])) : W p l e room_1 s m args below meth c H locs cells slots Q (F0 m 525 ls []) := by
  obtain ⟨T, R, sec, B, wt, pt, bt, u, q, hJ, hs1, hB1, hB2⟩ := hJn
  obtain ⟨-, hl9, -, -, hL, -, -, -, -, -, -, hao, -⟩ := id hX
  have hI := hJ.1
  have hM := hJ.2.2.2.1
  have hP := hJ.2.2.2.2.1.mP
  have hU := hJ.2.2.2.2.1.mU
  have hJ0 := hJ.re (RE.five N 0)
  have hJk := hJ.re (RK_kp N).1
  have h8 := hI.2.2.1
  have h6 := hI.2.2.2
  exact lc_towers hX hn hB hN hO hS hf hl (r := nI T) (rm := ({ frames := 1, cells := 0, slots := 0, locals := 21 } : Room)) (N' := (up2 N 5 0 0)) (c_X0_towers l D cI cQ a S hI) (by exact c_X1_towers_ok l D cI b N hM) ⟨rfl, rfl⟩ ⟨Nat.le_of_ble_eq_true rfl, Nat.le_of_ble_eq_true rfl⟩ (fun H1 locs1 ls1 => kx _ _ _ H1 locs1 ls1 ⟨T, R, sec, B, wt, pt, bt, u, q, hJ0, by omega, by omega, by omega⟩)
set_option maxHeartbeats 4000000 in
set_option maxRecDepth 100000 in
theorem st_traders {p : Program} {l : Launch} {e : Env} {s : State} {m : MethodId} {args : Array Value} {below : List Frame} {meth : Method} {c : Code} {H : Heap} {locs : List Loc} {cells slots : Nat} {Q : State → Prop} {ls : Array Slot} {bs L : Nat} {xs : Nat → Int32} {D : va_G} {cI cQ cL : ClassId} {a b : Nat → Nat} {o : Nat} {S N : bS} {w : Int64} {n : Nat} (hX : LX l p m c s args bs L xs a b o) (hn : 4 * n + 4 ≤ L) (hB : BW D cI cQ a S s H) (hN : MW D cI b N s H) (hO : OW D cL o w s H) (hS : va_S (A0 s) s.heap H locs) (hf : cells + 9 ≤ 601024 ∧ slots + 64 ≤ 7293034) (hl : lv_has ls 9 [(4, .int (nI (4 * n))), (0, .ref (bs)), (1, .ref (a 13)), (2, .ref (b 5)), (3, .ref (o))]) (hJn : Jn S N n) (kx : ∀ (S' N' : bS) (w' : Int64) (H1 : Heap) (locs1 : List Loc) (ls1 : Array Slot), Jn S' N' (n + 1) → BW D cI cQ a S' s H1 → MW D cI b N' s H1 → OW D cL o w' s H1 → va_S (A0 s) s.heap H1 locs1 → lv_has ls1 9 [(4, .int (nI (4 * n))), (0, .ref (bs)), (1, .ref (a 13)), (2, .ref (b 5)), (3, .ref (o))] → W p l e room_1 s m args below meth c H1 locs1 (cells + 9) (slots + 64) Q (F0 m 1559 ls1 [])) : W p l e room_1 s m args below meth c H locs cells slots Q (F0 m 900 ls []) := by
  obtain ⟨T, R, sec, B, wt, pt, bt, u, q, hJ, hs1, hB1, hB2⟩ := hJn
  obtain ⟨-, hl9, -, -, hL, -, -, -, -, -, -, hao, -⟩ := id hX
  have hI := hJ.1
  have hM := hJ.2.2.2.1
  have hP := hJ.2.2.2.2.1.mP
  have hU := hJ.2.2.2.2.1.mU
  have hJ0 := hJ.re (RE.five N 0)
  have hJk := hJ.re (RK_kp N).1
  have h8 := hI.2.2.1
  have h6 := hI.2.2.2
  exact lc_traders hX hn hB hN hO hS hf hl (r := nI R) (rm := ({ frames := 1, cells := 0, slots := 0, locals := 21 } : Room)) (N' := (up2 N 5 0 0)) (c_X0_traders l D cI cQ a S hI) (by exact c_X1_traders_ok l D cI b N hM) ⟨rfl, rfl⟩ ⟨Nat.le_of_ble_eq_true rfl, Nat.le_of_ble_eq_true rfl⟩ (fun H1 locs1 ls1 => kx _ _ _ H1 locs1 ls1 ⟨T, R, sec, B, wt, pt, bt, u, q, hJ0, by omega, by omega, by omega⟩)
set_option maxHeartbeats 4000000 in
set_option maxRecDepth 100000 in
theorem st_dearest {p : Program} {l : Launch} {e : Env} {s : State} {m : MethodId} {args : Array Value} {below : List Frame} {meth : Method} {c : Code} {H : Heap} {locs : List Loc} {cells slots : Nat} {Q : State → Prop} {ls : Array Slot} {bs L : Nat} {xs : Nat → Int32} {D : va_G} {cI cQ cL : ClassId} {a b : Nat → Nat} {o : Nat} {S N : bS} {w : Int64} {n : Nat} (hX : LX l p m c s args bs L xs a b o) (hn : 4 * n + 4 ≤ L) (hB : BW D cI cQ a S s H) (hN : MW D cI b N s H) (hO : OW D cL o w s H) (hS : va_S (A0 s) s.heap H locs) (hf : cells + 9 ≤ 601024 ∧ slots + 64 ≤ 7293034) (hl : lv_has ls 9 [(4, .int (nI (4 * n))), (0, .ref (bs)), (1, .ref (a 13)), (2, .ref (b 5)), (3, .ref (o))]) (hJn : Jn S N n) (kx : ∀ (S' N' : bS) (w' : Int64) (H1 : Heap) (locs1 : List Loc) (ls1 : Array Slot), Jn S' N' (n + 1) → BW D cI cQ a S' s H1 → MW D cI b N' s H1 → OW D cL o w' s H1 → va_S (A0 s) s.heap H1 locs1 → lv_has ls1 9 [(4, .int (nI (4 * n))), (0, .ref (bs)), (1, .ref (a 13)), (2, .ref (b 5)), (3, .ref (o))] → W p l e room_1 s m args below meth c H1 locs1 (cells + 9) (slots + 64) Q (F0 m 1559 ls1 [])) : W p l e room_1 s m args below meth c H locs cells slots Q (F0 m 874 ls []) := by
  obtain ⟨T, R, sec, B, wt, pt, bt, u, q, hJ, hs1, hB1, hB2⟩ := hJn
  obtain ⟨-, hl9, -, -, hL, -, -, -, -, -, -, hao, -⟩ := id hX
  have hI := hJ.1
  have hM := hJ.2.2.2.1
  have hP := hJ.2.2.2.2.1.mP
  have hU := hJ.2.2.2.2.1.mU
  have hJ0 := hJ.re (RE.five N 0)
  have hJk := hJ.re (RK_kp N).1
  have h8 := hI.2.2.1
  have h6 := hI.2.2.2
  have hr := hJ.de
  exact lc_dearest hX hn hB hN hO hS hf hl (r := oI (bDe S T R)) (rm := ({ frames := 5, cells := 0, slots := 0, locals := 112 } : Room)) (N' := (up2 N 5 0 0)) (c_X0_dearest l D cI cQ a S hI) (by rw [hr]; exact c_X1_dearest_ok l D cI b N hM) ⟨rfl, rfl⟩ ⟨Nat.le_of_ble_eq_true rfl, Nat.le_of_ble_eq_true rfl⟩ (fun H1 locs1 ls1 => kx _ _ _ H1 locs1 ls1 ⟨T, R, sec, B, wt, pt, bt, u, q, hJ0, by omega, by omega, by omega⟩)
set_option maxHeartbeats 4000000 in
set_option maxRecDepth 100000 in
theorem st_richest {p : Program} {l : Launch} {e : Env} {s : State} {m : MethodId} {args : Array Value} {below : List Frame} {meth : Method} {c : Code} {H : Heap} {locs : List Loc} {cells slots : Nat} {Q : State → Prop} {ls : Array Slot} {bs L : Nat} {xs : Nat → Int32} {D : va_G} {cI cQ cL : ClassId} {a b : Nat → Nat} {o : Nat} {S N : bS} {w : Int64} {n : Nat} (hX : LX l p m c s args bs L xs a b o) (hn : 4 * n + 4 ≤ L) (hB : BW D cI cQ a S s H) (hN : MW D cI b N s H) (hO : OW D cL o w s H) (hS : va_S (A0 s) s.heap H locs) (hf : cells + 9 ≤ 601024 ∧ slots + 64 ≤ 7293034) (hl : lv_has ls 9 [(4, .int (nI (4 * n))), (0, .ref (bs)), (1, .ref (a 13)), (2, .ref (b 5)), (3, .ref (o))]) (hJn : Jn S N n) (kx : ∀ (S' N' : bS) (w' : Int64) (H1 : Heap) (locs1 : List Loc) (ls1 : Array Slot), Jn S' N' (n + 1) → BW D cI cQ a S' s H1 → MW D cI b N' s H1 → OW D cL o w' s H1 → va_S (A0 s) s.heap H1 locs1 → lv_has ls1 9 [(4, .int (nI (4 * n))), (0, .ref (bs)), (1, .ref (a 13)), (2, .ref (b 5)), (3, .ref (o))] → W p l e room_1 s m args below meth c H1 locs1 (cells + 9) (slots + 64) Q (F0 m 1559 ls1 [])) : W p l e room_1 s m args below meth c H locs cells slots Q (F0 m 1093 ls []) := by
  obtain ⟨T, R, sec, B, wt, pt, bt, u, q, hJ, hs1, hB1, hB2⟩ := hJn
  obtain ⟨-, hl9, -, -, hL, -, -, -, -, -, -, hao, -⟩ := id hX
  have hI := hJ.1
  have hM := hJ.2.2.2.1
  have hP := hJ.2.2.2.2.1.mP
  have hU := hJ.2.2.2.2.1.mU
  have hJ0 := hJ.re (RE.five N 0)
  have hJk := hJ.re (RK_kp N).1
  have h8 := hI.2.2.1
  have h6 := hI.2.2.2
  have hr := hJ.rc (by omega)
  exact lc_richest hX hn hB hN hO hS hf hl (r := oI (bRc S T R)) (rm := ({ frames := 6, cells := 0, slots := 0, locals := 135 } : Room)) (N' := (up2 N 5 0 0)) (c_X0_richest l D cI cQ a S hI) (by rw [hr]; exact c_X1_richest_ok l D cI b N hM) ⟨rfl, rfl⟩ ⟨Nat.le_of_ble_eq_true rfl, Nat.le_of_ble_eq_true rfl⟩ (fun H1 locs1 ls1 => kx _ _ _ H1 locs1 ls1 ⟨T, R, sec, B, wt, pt, bt, u, q, hJ0, by omega, by omega, by omega⟩)
set_option maxHeartbeats 4000000 in
set_option maxRecDepth 100000 in
theorem st_nextToStrike {p : Program} {l : Launch} {e : Env} {s : State} {m : MethodId} {args : Array Value} {below : List Frame} {meth : Method} {c : Code} {H : Heap} {locs : List Loc} {cells slots : Nat} {Q : State → Prop} {ls : Array Slot} {bs L : Nat} {xs : Nat → Int32} {D : va_G} {cI cQ cL : ClassId} {a b : Nat → Nat} {o : Nat} {S N : bS} {w : Int64} {n : Nat} (hX : LX l p m c s args bs L xs a b o) (hn : 4 * n + 4 ≤ L) (hB : BW D cI cQ a S s H) (hN : MW D cI b N s H) (hO : OW D cL o w s H) (hS : va_S (A0 s) s.heap H locs) (hf : cells + 9 ≤ 601024 ∧ slots + 64 ≤ 7293034) (hl : lv_has ls 9 [(4, .int (nI (4 * n))), (0, .ref (bs)), (1, .ref (a 13)), (2, .ref (b 5)), (3, .ref (o))]) (hJn : Jn S N n) (kx : ∀ (S' N' : bS) (w' : Int64) (H1 : Heap) (locs1 : List Loc) (ls1 : Array Slot), Jn S' N' (n + 1) → BW D cI cQ a S' s H1 → MW D cI b N' s H1 → OW D cL o w' s H1 → va_S (A0 s) s.heap H1 locs1 → lv_has ls1 9 [(4, .int (nI (4 * n))), (0, .ref (bs)), (1, .ref (a 13)), (2, .ref (b 5)), (3, .ref (o))] → W p l e room_1 s m args below meth c H1 locs1 (cells + 9) (slots + 64) Q (F0 m 1559 ls1 [])) : W p l e room_1 s m args below meth c H locs cells slots Q (F0 m 887 ls []) := by
  obtain ⟨T, R, sec, B, wt, pt, bt, u, q, hJ, hs1, hB1, hB2⟩ := hJn
  obtain ⟨-, hl9, -, -, hL, -, -, -, -, -, -, hao, -⟩ := id hX
  have hI := hJ.1
  have hM := hJ.2.2.2.1
  have hP := hJ.2.2.2.2.1.mP
  have hU := hJ.2.2.2.2.1.mU
  have hJ0 := hJ.re (RE.five N 0)
  have hJk := hJ.re (RK_kp N).1
  have h8 := hI.2.2.1
  have h6 := hI.2.2.2
  have hr := hJ.nx
  exact lc_nextToStrike hX hn hB hN hO hS hf hl (r := oI (bNx S T)) (rm := ({ frames := 2, cells := 0, slots := 0, locals := 44 } : Room)) (N' := (up2 N 5 0 0)) (c_X0_nextToStrike l D cI cQ a S hI) (by rw [hr]; exact c_X1_nextToStrike_ok l D cI b N hM hU hP) ⟨rfl, rfl⟩ ⟨Nat.le_of_ble_eq_true rfl, Nat.le_of_ble_eq_true rfl⟩ (fun H1 locs1 ls1 => kx _ _ _ H1 locs1 ls1 ⟨T, R, sec, B, wt, pt, bt, u, q, hJ0, by omega, by omega, by omega⟩)
set_option maxHeartbeats 4000000 in
set_option maxRecDepth 100000 in
theorem st_bestToBuy {p : Program} {l : Launch} {e : Env} {s : State} {m : MethodId} {args : Array Value} {below : List Frame} {meth : Method} {c : Code} {H : Heap} {locs : List Loc} {cells slots : Nat} {Q : State → Prop} {ls : Array Slot} {bs L : Nat} {xs : Nat → Int32} {D : va_G} {cI cQ cL : ClassId} {a b : Nat → Nat} {o : Nat} {S N : bS} {w : Int64} {n : Nat} (hX : LX l p m c s args bs L xs a b o) (hn : 4 * n + 4 ≤ L) (hB : BW D cI cQ a S s H) (hN : MW D cI b N s H) (hO : OW D cL o w s H) (hS : va_S (A0 s) s.heap H locs) (hf : cells + 9 ≤ 601024 ∧ slots + 64 ≤ 7293034) (hl : lv_has ls 9 [(4, .int (nI (4 * n))), (0, .ref (bs)), (1, .ref (a 13)), (2, .ref (b 5)), (3, .ref (o))]) (hJn : Jn S N n) (kx : ∀ (S' N' : bS) (w' : Int64) (H1 : Heap) (locs1 : List Loc) (ls1 : Array Slot), Jn S' N' (n + 1) → BW D cI cQ a S' s H1 → MW D cI b N' s H1 → OW D cL o w' s H1 → va_S (A0 s) s.heap H1 locs1 → lv_has ls1 9 [(4, .int (nI (4 * n))), (0, .ref (bs)), (1, .ref (a 13)), (2, .ref (b 5)), (3, .ref (o))] → W p l e room_1 s m args below meth c H1 locs1 (cells + 9) (slots + 64) Q (F0 m 1559 ls1 [])) : W p l e room_1 s m args below meth c H locs cells slots Q (F0 m 1367 ls []) := by
  obtain ⟨T, R, sec, B, wt, pt, bt, u, q, hJ, hs1, hB1, hB2⟩ := hJn
  obtain ⟨-, hl9, -, -, hL, -, -, -, -, -, -, hao, -⟩ := id hX
  have hI := hJ.1
  have hM := hJ.2.2.2.1
  have hP := hJ.2.2.2.2.1.mP
  have hU := hJ.2.2.2.2.1.mU
  have hJ0 := hJ.re (RE.five N 0)
  have hJk := hJ.re (RK_kp N).1
  have h8 := hI.2.2.1
  have h6 := hI.2.2.2
  have hr := hJ.bu
  exact lc_bestToBuy hX hn hB hN hO hS hf hl (r := oI (bBu S T R)) (rm := ({ frames := 5, cells := 0, slots := 0, locals := 114 } : Room)) (N' := (up2 N 5 0 0)) (c_X0_bestToBuy l D cI cQ a S hI) (by rw [hr]; exact c_X1_bestToBuy_ok l D cI b N hM hU hP) ⟨rfl, rfl⟩ ⟨Nat.le_of_ble_eq_true rfl, Nat.le_of_ble_eq_true rfl⟩ (fun H1 locs1 ls1 => kx _ _ _ H1 locs1 ls1 ⟨T, R, sec, B, wt, pt, bt, u, q, hJ0, by omega, by omega, by omega⟩)
set_option maxHeartbeats 4000000 in
set_option maxRecDepth 100000 in
theorem st_inDebt {p : Program} {l : Launch} {e : Env} {s : State} {m : MethodId} {args : Array Value} {below : List Frame} {meth : Method} {c : Code} {H : Heap} {locs : List Loc} {cells slots : Nat} {Q : State → Prop} {ls : Array Slot} {bs L : Nat} {xs : Nat → Int32} {D : va_G} {cI cQ cL : ClassId} {a b : Nat → Nat} {o : Nat} {S N : bS} {w : Int64} {n : Nat} (hX : LX l p m c s args bs L xs a b o) (hn : 4 * n + 4 ≤ L) (hB : BW D cI cQ a S s H) (hN : MW D cI b N s H) (hO : OW D cL o w s H) (hS : va_S (A0 s) s.heap H locs) (hf : cells + 9 ≤ 601024 ∧ slots + 64 ≤ 7293034) (hl : lv_has ls 9 [(4, .int (nI (4 * n))), (0, .ref (bs)), (1, .ref (a 13)), (2, .ref (b 5)), (3, .ref (o))]) (hJn : Jn S N n) (kx : ∀ (S' N' : bS) (w' : Int64) (H1 : Heap) (locs1 : List Loc) (ls1 : Array Slot), Jn S' N' (n + 1) → BW D cI cQ a S' s H1 → MW D cI b N' s H1 → OW D cL o w' s H1 → va_S (A0 s) s.heap H1 locs1 → lv_has ls1 9 [(4, .int (nI (4 * n))), (0, .ref (bs)), (1, .ref (a 13)), (2, .ref (b 5)), (3, .ref (o))] → W p l e room_1 s m args below meth c H1 locs1 (cells + 9) (slots + 64) Q (F0 m 1559 ls1 [])) : W p l e room_1 s m args below meth c H locs cells slots Q (F0 m 1162 ls []) := by
  obtain ⟨T, R, sec, B, wt, pt, bt, u, q, hJ, hs1, hB1, hB2⟩ := hJn
  obtain ⟨-, hl9, -, -, hL, -, -, -, -, -, -, hao, -⟩ := id hX
  have hI := hJ.1
  have hM := hJ.2.2.2.1
  have hP := hJ.2.2.2.2.1.mP
  have hU := hJ.2.2.2.2.1.mU
  have hJ0 := hJ.re (RE.five N 0)
  have hJk := hJ.re (RK_kp N).1
  have h8 := hI.2.2.1
  have h6 := hI.2.2.2
  have hr := hJ.ow
  exact lc_inDebt hX hn hB hN hO hS hf hl (r := bOw S R) (rm := ({ frames := 1, cells := 0, slots := 0, locals := 22 } : Room)) (N' := (up2 N 5 0 0)) (c_X0_inDebt l D cI cQ a S hI) (by rw [hr]; exact c_X1_inDebt_ok l D cI b N hM) ⟨rfl, rfl⟩ ⟨Nat.le_of_ble_eq_true rfl, Nat.le_of_ble_eq_true rfl⟩ (fun H1 locs1 ls1 => kx _ _ _ H1 locs1 ls1 ⟨T, R, sec, B, wt, pt, bt, u, q, hJ0, by omega, by omega, by omega⟩)
set_option maxHeartbeats 4000000 in
set_option maxRecDepth 100000 in
theorem st_meanPrice {p : Program} {l : Launch} {e : Env} {s : State} {m : MethodId} {args : Array Value} {below : List Frame} {meth : Method} {c : Code} {H : Heap} {locs : List Loc} {cells slots : Nat} {Q : State → Prop} {ls : Array Slot} {bs L : Nat} {xs : Nat → Int32} {D : va_G} {cI cQ cL : ClassId} {a b : Nat → Nat} {o : Nat} {S N : bS} {w : Int64} {n : Nat} (hX : LX l p m c s args bs L xs a b o) (hn : 4 * n + 4 ≤ L) (hB : BW D cI cQ a S s H) (hN : MW D cI b N s H) (hO : OW D cL o w s H) (hS : va_S (A0 s) s.heap H locs) (hf : cells + 9 ≤ 601024 ∧ slots + 64 ≤ 7293034) (hl : lv_has ls 9 [(4, .int (nI (4 * n))), (0, .ref (bs)), (1, .ref (a 13)), (2, .ref (b 5)), (3, .ref (o))]) (hJn : Jn S N n) (kx : ∀ (S' N' : bS) (w' : Int64) (H1 : Heap) (locs1 : List Loc) (ls1 : Array Slot), Jn S' N' (n + 1) → BW D cI cQ a S' s H1 → MW D cI b N' s H1 → OW D cL o w' s H1 → va_S (A0 s) s.heap H1 locs1 → lv_has ls1 9 [(4, .int (nI (4 * n))), (0, .ref (bs)), (1, .ref (a 13)), (2, .ref (b 5)), (3, .ref (o))] → W p l e room_1 s m args below meth c H1 locs1 (cells + 9) (slots + 64) Q (F0 m 1559 ls1 [])) : W p l e room_1 s m args below meth c H locs cells slots Q (F0 m 1504 ls []) := by
  obtain ⟨T, R, sec, B, wt, pt, bt, u, q, hJ, hs1, hB1, hB2⟩ := hJn
  obtain ⟨-, hl9, -, -, hL, -, -, -, -, -, -, hao, -⟩ := id hX
  have hI := hJ.1
  have hM := hJ.2.2.2.1
  have hP := hJ.2.2.2.2.1.mP
  have hU := hJ.2.2.2.2.1.mU
  have hJ0 := hJ.re (RE.five N 0)
  have hJk := hJ.re (RK_kp N).1
  have h8 := hI.2.2.1
  have h6 := hI.2.2.2
  have hr := hJ0.me
  exact lc_meanPrice hX hn hB hN hO hS hf hl (r := bMe S T R) (rm := ({ frames := 4, cells := 0, slots := 0, locals := 90 } : Room)) (N' := (up2 N 5 0 0)) (c_X0_meanPrice l D cI cQ a S hI (fun h1 => by rw [sma_congr (g := mPr N R) rfl T (fun t ht => hJ.prc ht)]; exact hJ.mn h1)) (by rw [hr]; exact c_X1_meanPrice_ok l D cI b N hM (fun h1 => hJ0.mn (Nat.pos_of_ne_zero (fun h0 => h1 (by rw [h0]; rfl))))) ⟨rfl, rfl⟩ ⟨Nat.le_of_ble_eq_true rfl, Nat.le_of_ble_eq_true rfl⟩ (fun H1 locs1 ls1 => kx _ _ _ H1 locs1 ls1 ⟨T, R, sec, B, wt, pt, bt, u, q, hJ0, by omega, by omega, by omega⟩)
set_option maxHeartbeats 4000000 in
set_option maxRecDepth 100000 in
theorem st_digest {p : Program} {l : Launch} {e : Env} {s : State} {m : MethodId} {args : Array Value} {below : List Frame} {meth : Method} {c : Code} {H : Heap} {locs : List Loc} {cells slots : Nat} {Q : State → Prop} {ls : Array Slot} {bs L : Nat} {xs : Nat → Int32} {D : va_G} {cI cQ cL : ClassId} {a b : Nat → Nat} {o : Nat} {S N : bS} {w : Int64} {n : Nat} (hX : LX l p m c s args bs L xs a b o) (hn : 4 * n + 4 ≤ L) (hB : BW D cI cQ a S s H) (hN : MW D cI b N s H) (hO : OW D cL o w s H) (hS : va_S (A0 s) s.heap H locs) (hf : cells + 9 ≤ 601024 ∧ slots + 64 ≤ 7293034) (hl : lv_has ls 9 [(4, .int (nI (4 * n))), (0, .ref (bs)), (1, .ref (a 13)), (2, .ref (b 5)), (3, .ref (o))]) (hJn : Jn S N n) (kx : ∀ (S' N' : bS) (w' : Int64) (H1 : Heap) (locs1 : List Loc) (ls1 : Array Slot), Jn S' N' (n + 1) → BW D cI cQ a S' s H1 → MW D cI b N' s H1 → OW D cL o w' s H1 → va_S (A0 s) s.heap H1 locs1 → lv_has ls1 9 [(4, .int (nI (4 * n))), (0, .ref (bs)), (1, .ref (a 13)), (2, .ref (b 5)), (3, .ref (o))] → W p l e room_1 s m args below meth c H1 locs1 (cells + 9) (slots + 64) Q (F0 m 1559 ls1 [])) : W p l e room_1 s m args below meth c H locs cells slots Q (F0 m 1545 ls []) := by
  obtain ⟨T, R, sec, B, wt, pt, bt, u, q, hJ, hs1, hB1, hB2⟩ := hJn
  obtain ⟨-, hl9, -, -, hL, -, -, -, -, -, -, hao, -⟩ := id hX
  have hI := hJ.1
  have hM := hJ.2.2.2.1
  have hP := hJ.2.2.2.2.1.mP
  have hU := hJ.2.2.2.2.1.mU
  have hJ0 := hJ.re (RE.five N 0)
  have hJk := hJ.re (RK_kp N).1
  have h8 := hI.2.2.1
  have h6 := hI.2.2.2
  have hr := hJ0.dg (by omega)
  exact lc_digest hX hn hB hN hO hS hf hl (r := bDg S T R) (rm := ({ frames := 6, cells := 9, slots := 64, locals := 135 } : Room)) (N' := (up2 N 5 0 0)) (c_X0_digest l D cI cQ a S hI) (by rw [hr]; exact c_X1_digest_ok l D cI b N H.size hM hU hP) ⟨rfl, rfl⟩ ⟨Nat.le_of_ble_eq_true rfl, Nat.le_of_ble_eq_true rfl⟩ (fun H1 locs1 ls1 => kx _ _ _ H1 locs1 ls1 ⟨T, R, sec, B, wt, pt, bt, u, q, hJ0, by omega, by omega, by omega⟩)

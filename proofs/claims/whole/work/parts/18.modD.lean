def bMe (S : bS) (T R : Nat) : UInt64 := if T < 1 then FP.dconst0 else FP.ddiv (FP.i2d (sma 0 (bPr S R) T)) (FP.i2d (nI T))
def mMe (N : bS) (T R : Nat) : UInt64 := if nI T = 0 then FP.dconst0 else FP.ddiv (FP.i2d (sma 0 (mPr N R) T)) (FP.i2d (nI T))
def mAll (N : bS) (T R : Nat) (u : Nat → Nat) : Nat → Int32 := upd (upd (upd (upd (upd (upd (upd (upd (fun _ => 0) 0 (N 3 0)) 1 (nI T)) 2 (nI R)) 3 (oI (mDe N T R))) 4 (oI (amN u T))) 5 (oI (mRi N T R))) 6 (mOw N R)) 7 (oI (mBu N T R u).1)
def mOf (N : bS) (R : Nat) (u : Nat → Nat) (t : Nat) : Nat → Int32 := upd (upd (upd (upd (upd (upd (upd (fun _ => 0) 0 (N 3 (1 + t))) 1 (mDv N R t)) 2 (mPr N R t)) 3 (nI (u t))) 4 (N 3 (9 + t))) 5 (mOp N R t)) 6 (mCl N R u t)
def mDt (N : bS) (R : Nat) (u : Nat → Nat) (d : Int64) (t : Nat) : Int64 := lfo (fun d j => mi d (mOf N R u t j)) d 7
def mDr (N : bS) (T R : Nat) (d : Int64) (r : Nat) : Int64 := lfo (fun d t => mi d (N 3 (23 + 8 * r + t))) (mi (mi (mi d (N 3 (17 + r))) (mWo N T R r)) (mSh N T r)) T
def mDg (N : bS) (T R : Nat) (u : Nat → Nat) : Int64 := lfo (mDr N T R) (lfo (mDt N R u) (lfo (fun d j => mi d (mAll N T R u j)) 2081 8) T) R
/-- the reference's cells, and a new array of n places -/
def MWA (D : va_G) (cI : ClassId) (b : Nat → Nat) (N : bS) (cA : ClassId) (q n : Nat) (F : Nat → Int32) (U : State) (H : Heap) : Prop := va_K D vwCl [(cI, .int), (cA, .int)] U ∧ va_P D vwCl (vwM cI b N ++ [(q, .inl (cA, n, .inl F))]) H ∧ (∀ i j : Nat, i < 6 → j < 6 → b i = b j → i = j) ∧ ∀ k : Nat, k < 6 → b k ≠ q
theorem MWA.toMW {D : va_G} {cI : ClassId} {b : Nat → Nat} {N : bS} {cA : ClassId} {q n : Nat} {F : Nat → Int32} {U : State} {H : Heap} (h : MWA D cI b N cA q n F U H) : MW D cI b N U H := ⟨h.1.sub [0] rfl, h.2.1.sub [0, 1, 2, 3, 4, 5] rfl, h.2.2.1⟩
theorem MWA.D {D : va_G} {cI : ClassId} {b : Nat → Nat} {N : bS} {cA : ClassId} {q n : Nat} {F : Nat → Int32} {U : State} {H : Heap} {A : Nat → Prop} (h : MWA D cI b N cA q n F U H) (hA : ∀ x, inM b x → A x) (hq : A q) : va_D A (vwM cI b N ++ [(q, .inl (cA, n, .inl F))]) := by
  refine va_D.app (h.toMW.D.weaken (fun _ _ _ z => hA _ z)) ⟨fun i j p r h1 h2 _ => ?_, fun k r h1 => ?_⟩ (fun i j p r h1 h2 => ?_)
  · have := (List.getElem?_eq_some_iff.mp h1).1
    have := (List.getElem?_eq_some_iff.mp h2).1
    simp at *
    omega
  · match k, h1 with
    | 0, h1 => cases h1; exact hq
    | k + 1, h1 => simp at h1
  · match j, h2 with
    | 0, h2 =>
      cases h2
      obtain ⟨h3, h4⟩ := vwM_at i p h1
      rw [h4]
      exact h.2.2.2 _ (Nat.mod_lt _ (by decide))
    | j + 1, h2 => simp at h2
section MA
variable {p : Program} {l : Launch} {e : Env} {R : Room} {s : State} {m : MethodId} {args : Array Value} {below : List Frame} {meth : Method} {c : Code} {H : Heap} {locs : List Loc} {cells slots : Nat} {Q : State → Prop}
variable {cc : ByteArray} {pc nL : Nat} {ls : Array Slot} {rest : List Value} {D : va_G} {cI cA : ClassId} {b : Nat → Nat} {N : bS} {A0 : Nat → Prop} {H0 : Heap} {q n : Nat} {F : Nat → Int32} {x v : Int32}
theorem nwM (hC : CallFix p m c cc nL s args wsL_law RX1) (hB : MW D cI b N s H) (hS : va_S A0 H0 H locs) (hA : ∀ q, inM b q → A0 q) (hA1 : ∀ q, H0.size ≤ q → A0 q) (hn : n ≤ 8) (hx : x = nI n) (hcells : cells + 1 ≤ R.cells) (hslots : slots + n ≤ R.slots) (hdg : decode cc pc = .ok (.newarray .int, 2)) (kk : ∀ (q : Nat) (cA : ClassId) (H1 : Heap), MWA D cI b N cA q n (fun _ => 0) s H1 → A0 q → va_S A0 H0 H1 locs → W p l e R s m args below meth c H1 locs (cells + 1) (slots + n) Q (F0 m (pc + 2) ls (.ref q :: rest))) : W p l e R s m args below meth c H locs cells slots Q (F0 m pc ls (.int x :: rest)) := by
  subst hx
  refine va_newa (atype := .int) (ty := .int) hC.1 hC.2.1 (hC.2.2.2.2 _ (List.mem_of_getElem? (i := 13) (by decide +kernel))) rfl hB.1 hB.2.1 (hB.D.weaken (fun _ _ _ h => hA _ h)) hS hA1 (N' := n) (a0 := (n, .inl (fun _ => 0))) (fun _ => rfl) (nI_pos (by omega)) (nI_clamp (by omega)) (by show n * 4 ≤ _; omega) hcells hslots hdg (fun q cA H1 h1 h2 h3 h4 => ?_)
  refine kk q cA H1 ⟨h1, h2, hB.2.2, fun k hk hq => ?_⟩ (h3.2 6 _ rfl) h4
  have hl : ((k + 1) % 6) < (vwM cI b N).length := by show _ < 6; omega
  have h5 := List.getElem?_eq_getElem hl
  have h6 : (vwM cI b N ++ [(q, .inl (cA, n, .inl (fun _ => 0)))])[(k + 1) % 6]? = some ((vwM cI b N)[(k + 1) % 6]) := by rw [List.getElem?_append_left hl]; exact h5
  have h7 := h3.1 _ 6 _ _ h6 rfl (by rw [(vwM_at _ _ h5).2, show ((k + 1) % 6 + 5) % 6 = k by omega]; exact hq)
  omega
theorem stA (j : Nat) (hC : CallFix p m c cc nL s args wsL_law RX1) (hR : MWA D cI b N cA q n F s H) (hS : va_S A0 H0 H locs) (hA : ∀ q, inM b q → A0 q) (hq : A0 q) (hn : n ≤ 8) (hx : x = nI j) (hj : j < n) (hdg : decode cc pc = .ok (.iastore, 1)) (kk : ∀ (H1 : Heap) (locs1 : List Loc), MWA D cI b N cA q n (upd F j v) s H1 → va_S A0 H0 H1 locs1 → W p l e R s m args below meth c H1 locs1 cells slots Q (F0 m (pc + 1) ls rest)) : W p l e R s m args below meth c H locs cells slots Q (F0 m pc ls (.int v :: .int x :: .ref q :: rest)) := by
  subst hx
  refine va_iast hC.1 hC.2.1 hR.1 hR.2.1 (hR.D hA hq) hS 6 1 (f := F) rfl rfl (nin hj (by omega)) hdg (fun H1 locs1 h1 _ h3 => ?_)
  rw [ncl (by omega : j < 8)] at h1
  exact kk H1 locs1 ⟨hR.1, h1, hR.2.2⟩ h3
theorem ldA (j : Nat) (hC : CallFix p m c cc nL s args wsL_law RX1) (hR : MWA D cI b N cA q n F s H) (hn : n ≤ 8) (hx : x = nI j) (hj : j < n) (hv : F j = v) (hdg : decode cc pc = .ok (.iaload, 1)) (kk : W p l e R s m args below meth c H locs cells slots Q (F0 m (pc + 1) ls (.int v :: rest))) : W p l e R s m args below meth c H locs cells slots Q (F0 m pc ls (.int x :: .ref q :: rest)) := by
  subst hx
  subst hv
  refine va_iald hC.1 hC.2.1 hR.1 hR.2.1 6 1 (f := F) rfl rfl (nin hj (by omega)) hdg ?_
  rw [ncl (by omega : j < 8)]
  exact kk
theorem lenA (hC : CallFix p m c cc nL s args wsL_law RX1) (hR : MWA D cI b N cA q n F s H) (hdg : decode cc pc = .ok (.arraylength, 1)) (kk : W p l e R s m args below meth c H locs cells slots Q (F0 m (pc + 1) ls (.int (nI n) :: rest))) : W p l e R s m args below meth c H locs cells slots Q (F0 m pc ls (.ref q :: rest)) :=
  va_alen hC.1 hC.2.1 hR.1 hR.2.1 6 1 rfl rfl rfl hdg kk
end MA
set_option maxHeartbeats 4000000 in
set_option maxRecDepth 100000 in
theorem c_X0_meanPrice (l : Launch) (D : va_G) (cI cQ : ClassId) (a : Nat → Nat) (S : bS) {T R : Nat} (hI : BI S T R) (hn : 1 ≤ T → vf_n64 (FP.ddiv (FP.i2d (sma 0 (bPr S R) T)) (FP.i2d (nI T)))) : Rd l yX0_meanPrice cX0_meanPrice 3 (some .double) ({ frames := 4, cells := 0, slots := 0, locals := 88 } : Room) (BW D cI cQ a S) [.ref (a 13)] (.double (bMe S T R)) := by
  refine Rd.of (by decide) (Nat.le_of_ble_eq_true rfl) ?_
  intro p e s m args below meth c ls hC hr hlocks hB hl
  have hx := hC.1
  have hb := hC.2.1
  obtain ⟨hT, hR, hT8, hR6⟩ := id hI
  have hl : lv_has ls 3 [(0, .ref (a 13))] := hl
  refine lv_aload_n hx hb dX0_meanPrice_0 rfl (lv_at hl 0 rfl) ?_
  refine gB_towerCount hC hB hT dX0_meanPrice_1 ?_
  refine lv_iconst (v := 1) hx hb dX0_meanPrice_4 (by decide) ?_
  refine jge (i := T) (j := 1) (tgt := 10) hC dX0_meanPrice_5 (by decide) rfl rfl (by omega) (by omega) (fun c1 => ?_) (fun c1 => ?_)
  · refine lv_iconst (v := 0) hx hb dX0_meanPrice_10 (by decide) ?_
    refine lv_istore_n (lv' := [(1, .int (0)), (0, .ref (a 13))]) hx hb dX0_meanPrice_11 rfl hl (by decide) rfl (fun ls hl => ?_)
    refine lv_iconst (v := 0) hx hb dX0_meanPrice_12 (by decide) ?_
    refine lv_istore_n (lv' := [(2, .int (0)), (1, .int (0)), (0, .ref (a 13))]) hx hb dX0_meanPrice_13 rfl hl (by decide) rfl (fun ls hl => ?_)
    refine loopU (P := fun i => ∀ ls : Array Slot, lv_has ls 3 [(2, .int (nI i)), (1, .int (sma 0 (bPr S R) i)), (0, .ref (a 13))] → W p l e ({ frames := 4, cells := 0, slots := 0, locals := 88 } : Room) s m args below meth c s.heap [] 0 0 (MQ below (k2_QcV (.double (bMe S T R))) args s 0 0 (fun _ => False)) (F0 m 14 ls [])) (T) ?_ ?_ 0 (by omega) ls (by first | exact lv_sub hl [0, 1, 2] rfl | (simpa using lv_sub hl [0, 1, 2] rfl))
    · intro ls hl
      refine lv_iload_n hx hb dX0_meanPrice_14 rfl (lv_at hl 0 rfl) ?_
      refine lv_aload_n hx hb dX0_meanPrice_15 rfl (lv_at hl 2 rfl) ?_
      refine gB_towerCount hC hB hT dX0_meanPrice_16 ?_
      refine jge (i := T) (j := T) (tgt := 36) hC dX0_meanPrice_19 (by decide) rfl rfl (by omega) (by omega) (fun c2 => ?_) (fun c2 => ?_)
      · refine lv_iload_n hx hb dX0_meanPrice_36 rfl (lv_at hl 1 rfl) ?_
        refine lv_i2d hx hb dX0_meanPrice_37 ?_
        refine lv_aload_n hx hb dX0_meanPrice_38 rfl (lv_at hl 2 rfl) ?_
        refine gB_towerCount hC hB hT dX0_meanPrice_39 ?_
        refine lv_i2d hx hb dX0_meanPrice_42 ?_
        refine lv_ddiv hx hb dX0_meanPrice_43 (hn c1) ?_
        exact rd_d hC hr hlocks dX0_meanPrice_44 (by unfold bMe; rw [if_neg (by omega)])
      · exfalso; omega
    · intro i hi ih ls hl
      refine lv_iload_n hx hb dX0_meanPrice_14 rfl (lv_at hl 0 rfl) ?_
      refine lv_aload_n hx hb dX0_meanPrice_15 rfl (lv_at hl 2 rfl) ?_
      refine gB_towerCount hC hB hT dX0_meanPrice_16 ?_
      refine jge (i := i) (j := T) (tgt := 36) hC dX0_meanPrice_19 (by decide) rfl rfl (by omega) (by omega) (fun c3 => ?_) (fun c3 => ?_)
      · exfalso; omega
      · refine lv_iload_n hx hb dX0_meanPrice_22 rfl (lv_at hl 1 rfl) ?_
        refine lv_aload_n hx hb dX0_meanPrice_23 rfl (lv_at hl 2 rfl) ?_
        refine lv_iload_n hx hb dX0_meanPrice_24 rfl (lv_at hl 0 rfl) ?_
        refine k_X0_priceNow hC (c_X0_priceNow l D cI cQ a S hI (t := i) (by omega)) hB rfl ⟨rfl, rfl⟩ ⟨Nat.le_of_ble_eq_true rfl, Nat.le_of_ble_eq_true rfl⟩ ⟨Nat.zero_le _, Nat.zero_le _⟩ hl.1 rfl (Nat.le_of_ble_eq_true rfl) dX0_meanPrice_25 ?_
        refine lv_iadd hx hb dX0_meanPrice_28 ?_
        refine lv_istore_n (lv' := [(1, .int ((sma 0 (bPr S R) i) + (bPr S R i))), (2, .int (nI i)), (0, .ref (a 13))]) hx hb dX0_meanPrice_29 rfl hl (by decide) rfl (fun ls hl => ?_)
        refine lv_iinc (v := nI (i + 1)) (lv' := [(2, .int (nI (i + 1))), (1, .int ((sma 0 (bPr S R) i) + (bPr S R i))), (0, .ref (a 13))]) hx hb dX0_meanPrice_30 hl (k := 1) rfl (ninc i) (by decide) rfl (fun ls hl => ?_)
        refine lv_goto (tgt := 14) hx hb dX0_meanPrice_33 (by decide) ?_
        exact ih ls (lv_sub hl [0, 1, 2] rfl)
  · refine lv_dconst0 hx hb dX0_meanPrice_8 ?_
    exact rd_d hC hr hlocks dX0_meanPrice_9 (by unfold bMe; rw [if_pos c1])
set_option maxHeartbeats 4000000 in
set_option maxRecDepth 100000 in
theorem c_X1_meanPrice_ok (l : Launch) (D : va_G) (cI : ClassId) (b : Nat → Nat) (N : bS) {T R : Nat} (hI : MI N T R) (hn : ¬ nI T = 0 → vf_n64 (FP.ddiv (FP.i2d (sma 0 (mPr (up2 N 5 0 0) R) T)) (FP.i2d (nI T)))) : Wr l yX1_meanPrice cX1_meanPrice 3 (some .double) ({ frames := 4, cells := 0, slots := 0, locals := 90 } : Room) (MW D cI b N) (MW D cI b (up2 N 5 0 0)) (inM b) [.ref (b 5)] (some (.double (mMe (up2 N 5 0 0) T R))) 0 0 := by
  refine Wr.of (by decide) (Nat.le_of_ble_eq_true rfl) ?_
  intro p e s m args below meth c ls hC hr hlocks hB hS hl
  have hx := hC.1
  have hb := hC.2.1
  have hA : ∀ q, (inM b) q → (inM b) q := fun _ h => h
  obtain ⟨hT, hR, hT8, hR6⟩ := id hI
  have hl : lv_has ls 3 [(0, .ref (b 5))] := hl
  refine lv_aload_n hx hb dX1_meanPrice_0 rfl (lv_at hl 0 rfl) ?_
  refine lv_iconst (v := 0) hx hb dX1_meanPrice_1 (by decide) ?_
  refine pM_thrown hC hB hS hA dX1_meanPrice_2 (fun H locs hB hS => ?_)
  refine lv_iconst (v := 0) hx hb dX1_meanPrice_5 (by decide) ?_
  refine lv_istore_n (lv' := [(1, .int (0)), (0, .ref (b 5))]) hx hb dX1_meanPrice_6 rfl hl (by decide) rfl (fun ls hl => ?_)
  refine lv_iconst (v := 0) hx hb dX1_meanPrice_7 (by decide) ?_
  refine lv_istore_n (lv' := [(2, .int (0)), (1, .int (0)), (0, .ref (b 5))]) hx hb dX1_meanPrice_8 rfl hl (by decide) rfl (fun ls hl => ?_)
  refine loopU (P := fun i => ∀ ls : Array Slot, lv_has ls 3 [(2, .int (nI i)), (1, .int (sma 0 (mPr (up2 N 5 0 0) R) i)), (0, .ref (b 5))] → W p l e ({ frames := 4, cells := 0, slots := 0, locals := 90 } : Room) s m args below meth c H locs 0 0 (MQ below (qW (some (.double (mMe (up2 N 5 0 0) T R))) (MW D cI b (up2 N 5 0 0)) (inM b)) args s 0 0 (inM b)) (F0 m 9 ls [])) (T) ?_ ?_ 0 (by omega) ls (by first | exact lv_sub hl [0, 1, 2] rfl | (simpa using lv_sub hl [0, 1, 2] rfl))
  · intro ls hl
    refine lv_iload_n hx hb dX1_meanPrice_9 rfl (lv_at hl 0 rfl) ?_
    refine lv_aload_n hx hb dX1_meanPrice_10 rfl (lv_at hl 2 rfl) ?_
    refine gM_towers (v := nI T) hC hB (by rw [up2_ne _ _ (by omega)]; exact hT) dX1_meanPrice_11 ?_
    refine jge (i := T) (j := T) (tgt := 31) hC dX1_meanPrice_14 (by decide) rfl rfl (by omega) (by omega) (fun c1 => ?_) (fun c1 => ?_)
    · refine lv_aload_n hx hb dX1_meanPrice_31 rfl (lv_at hl 2 rfl) ?_
      refine gM_towers (v := nI T) hC hB (by rw [up2_ne _ _ (by omega)]; exact hT) dX1_meanPrice_32 ?_
      refine lv_if_ne (tgt := 42) hx hb dX1_meanPrice_35 (by decide) (fun c2 => ?_) (fun c2 => ?_)
      · refine lv_iload_n hx hb dX1_meanPrice_42 rfl (lv_at hl 1 rfl) ?_
        refine lv_i2d hx hb dX1_meanPrice_43 ?_
        refine lv_aload_n hx hb dX1_meanPrice_44 rfl (lv_at hl 2 rfl) ?_
        refine gM_towers (v := nI T) hC hB (by rw [up2_ne _ _ (by omega)]; exact hT) dX1_meanPrice_45 ?_
        refine lv_i2d hx hb dX1_meanPrice_48 ?_
        refine lv_ddiv hx hb dX1_meanPrice_49 (hn c2) ?_
        exact wr_d hC hr hlocks mov_M (hB) hS dX1_meanPrice_50 (by unfold mMe; rw [if_neg c2] <;> rfl)
      · refine lv_dconst0 hx hb dX1_meanPrice_38 ?_
        refine lv_goto (tgt := 50) hx hb dX1_meanPrice_39 (by decide) ?_
        exact wr_d hC hr hlocks mov_M (hB) hS dX1_meanPrice_50 (by unfold mMe; rw [if_pos c2] <;> rfl)
    · exfalso; omega
  · intro i hi ih ls hl
    refine lv_iload_n hx hb dX1_meanPrice_9 rfl (lv_at hl 0 rfl) ?_
    refine lv_aload_n hx hb dX1_meanPrice_10 rfl (lv_at hl 2 rfl) ?_
    refine gM_towers (v := nI T) hC hB (by rw [up2_ne _ _ (by omega)]; exact hT) dX1_meanPrice_11 ?_
    refine jge (i := i) (j := T) (tgt := 31) hC dX1_meanPrice_14 (by decide) rfl rfl (by omega) (by omega) (fun c3 => ?_) (fun c3 => ?_)
    · exfalso; omega
    · refine lv_iload_n hx hb dX1_meanPrice_17 rfl (lv_at hl 1 rfl) ?_
      refine lv_aload_n hx hb dX1_meanPrice_18 rfl (lv_at hl 2 rfl) ?_
      refine lv_iload_n hx hb dX1_meanPrice_19 rfl (lv_at hl 0 rfl) ?_
      refine k_X1_price hC (c_X1_price l D cI b (up2 N 5 0 0) (t := i) (MI_5 (hI)) (by omega)) hB rfl ⟨rfl, rfl⟩ ⟨Nat.le_of_ble_eq_true rfl, Nat.le_of_ble_eq_true rfl⟩ ⟨Nat.zero_le _, Nat.zero_le _⟩ hl.1 rfl (Nat.le_of_ble_eq_true rfl) dX1_meanPrice_20 ?_
      refine lv_iadd hx hb dX1_meanPrice_23 ?_
      refine lv_istore_n (lv' := [(1, .int ((sma 0 (mPr (up2 N 5 0 0) R) i) + (mPr (up2 N 5 0 0) R i))), (2, .int (nI i)), (0, .ref (b 5))]) hx hb dX1_meanPrice_24 rfl hl (by decide) rfl (fun ls hl => ?_)
      refine lv_iinc (v := nI (i + 1)) (lv' := [(2, .int (nI (i + 1))), (1, .int ((sma 0 (mPr (up2 N 5 0 0) R) i) + (mPr (up2 N 5 0 0) R i))), (0, .ref (b 5))]) hx hb dX1_meanPrice_25 hl (k := 1) rfl (ninc i) (by decide) rfl (fun ls hl => ?_)
      refine lv_goto (tgt := 9) hx hb dX1_meanPrice_28 (by decide) ?_
      exact ih ls (lv_sub hl [0, 1, 2] rfl)
def mDb (d : Nat) : Int32 := if 100 < d then -1 else nI d
theorem q9p {x : Int32} (h : x < 0) (h2 : 0 ≤ x) : False := by
  have h3 := Int32.lt_iff_toInt_lt.mp h
  have h4 := Int32.le_iff_toInt_le.mp h2
  omega
theorem q9n {x : Int32} (h : ¬ x < 0) : 0 ≤ x := by
  rw [Int32.lt_iff_toInt_lt] at h
  rw [Int32.le_iff_toInt_le]
  omega
set_option maxHeartbeats 4000000 in
set_option maxRecDepth 100000 in
theorem c_X1_secondsUntilDebt_ok (l : Launch) (D : va_G) (cI : ClassId) (b : Nat → Nat) (N : bS) {T R : Nat} {r : Nat} (hI : MI N T R) (hr9 : r < R) (hP : mP N T) : Wr l yX1_secondsUntilDebt cX1_secondsUntilDebt 3 (some .int) ({ frames := 5, cells := 0, slots := 0, locals := 114 } : Room) (MW D cI b N) (MW D cI b (bk (mPa (kp (up2 N 5 0 0)) T R (dbn (fun k => mPa (kp (up2 N 5 0 0)) T R k 3 (17 + r)) 101 0)))) (inM b) [.ref (b 5), .int (nI r)] (some (.int (mDb (dbn (fun k => mPa (kp (up2 N 5 0 0)) T R k 3 (17 + r)) 101 0)))) 0 0 := by
  refine Wr.of (by decide) (Nat.le_of_ble_eq_true rfl) ?_
  intro p e s m args below meth c ls hC hr hlocks hB hS hl
  have hx := hC.1
  have hb := hC.2.1
  have hA : ∀ q, (inM b) q → (inM b) q := fun _ h => h
  obtain ⟨hT, hR, hT8, hR6⟩ := id hI
  have hl : lv_has ls 3 [(0, .ref (b 5)), (1, .int (nI r))] := hl
  refine lv_aload_n hx hb dX1_secondsUntilDebt_0 rfl (lv_at hl 0 rfl) ?_
  refine lv_iconst (v := 0) hx hb dX1_secondsUntilDebt_1 (by decide) ?_
  refine pM_thrown hC hB hS hA dX1_secondsUntilDebt_2 (fun H locs hB hS => ?_)
  refine lv_aload_n hx hb dX1_secondsUntilDebt_5 rfl (lv_at hl 0 rfl) ?_
  refine lv_iload_n hx hb dX1_secondsUntilDebt_6 rfl (lv_at hl 1 rfl) ?_
  refine k_X1_isTrader hC (c_X1_isTrader_ok l D cI b (up2 N 5 0 0) (t := r) (MI_5 (hI)) (by omega)) hB rfl ⟨rfl, rfl⟩ ⟨Nat.le_of_ble_eq_true rfl, Nat.le_of_ble_eq_true rfl⟩ ⟨Nat.zero_le _, Nat.zero_le _⟩ hl.1 rfl (Nat.le_of_ble_eq_true rfl) dX1_secondsUntilDebt_7 ?_
  refine lv_if_ne (tgt := 19) hx hb dX1_secondsUntilDebt_10 (by decide) (fun c1 => ?_) (fun c1 => ?_)
  · refine lv_aload_n hx hb dX1_secondsUntilDebt_19 rfl (lv_at hl 0 rfl) ?_
    refine kw_X1_keep hC (c_X1_keep l D cI b (up2 N 5 0 0)) hB rfl ⟨rfl, rfl⟩ ⟨Nat.le_of_ble_eq_true rfl, Nat.le_of_ble_eq_true rfl⟩ ⟨Nat.le_of_ble_eq_true rfl, Nat.le_of_ble_eq_true rfl⟩ hS hA hl.1 rfl (Nat.le_of_ble_eq_true rfl) dX1_secondsUntilDebt_20 (fun H locs hB hS => ?_)
    refine lv_iconst (v := 0) hx hb dX1_secondsUntilDebt_23 (by decide) ?_
    refine lv_istore_n (lv' := [(2, .int (0)), (0, .ref (b 5)), (1, .int (nI r))]) hx hb dX1_secondsUntilDebt_24 rfl hl (by decide) rfl (fun ls hl => ?_)
    refine loopU (P := fun i => (∀ j : Nat, j < i → 0 ≤ mPa (kp (up2 N 5 0 0)) T R j 3 (17 + r)) → ∀ (H : Heap) (locs : List Loc), MW D cI b ((mPa (kp (up2 N 5 0 0)) T R i)) s H → va_S (inM b) s.heap H locs → ∀ ls : Array Slot, lv_has ls 3 [(2, .int (nI i)), (0, .ref (b 5)), (1, .int (nI r))] → W p l e ({ frames := 5, cells := 0, slots := 0, locals := 114 } : Room) s m args below meth c H locs 0 0 (MQ below (qW (some (.int (mDb (dbn (fun k => mPa (kp (up2 N 5 0 0)) T R k 3 (17 + r)) 101 0)))) (MW D cI b (bk (mPa (kp (up2 N 5 0 0)) T R (dbn (fun k => mPa (kp (up2 N 5 0 0)) T R k 3 (17 + r)) 101 0)))) (inM b)) args s 0 0 (inM b)) (F0 m 25 ls [])) (101) ?_ ?_ 0 (by omega) (fun j h9 => absurd h9 (by omega)) H locs hB hS ls (by first | exact lv_sub hl [0, 1, 2] rfl | (simpa using lv_sub hl [0, 1, 2] rfl))
    · intro han H locs hB hS ls hl
      refine lv_iload_n hx hb dX1_secondsUntilDebt_25 rfl (lv_at hl 0 rfl) ?_
      refine lv_bipush (v := 100) hx hb dX1_secondsUntilDebt_26 (by decide) ?_
      refine jgt (i := 101) (j := 100) (tgt := 54) hC dX1_secondsUntilDebt_28 (by decide) rfl rfl (by omega) (by omega) (fun c2 => ?_) (fun c2 => ?_)
      · refine lv_aload_n hx hb dX1_secondsUntilDebt_54 rfl (lv_at hl 1 rfl) ?_
        refine kw_X1_bringBack hC (c_X1_bringBack l D cI b (mPa (kp (up2 N 5 0 0)) T R 101)) hB rfl ⟨rfl, rfl⟩ ⟨Nat.le_of_ble_eq_true rfl, Nat.le_of_ble_eq_true rfl⟩ ⟨Nat.le_of_ble_eq_true rfl, Nat.le_of_ble_eq_true rfl⟩ hS hA hl.1 rfl (Nat.le_of_ble_eq_true rfl) dX1_secondsUntilDebt_55 (fun H locs hB hS => ?_)
        refine lv_iload_n hx hb dX1_secondsUntilDebt_58 rfl (lv_at hl 0 rfl) ?_
        refine lv_bipush (v := 100) hx hb dX1_secondsUntilDebt_59 (by decide) ?_
        refine jle (i := 101) (j := 100) (tgt := 68) hC dX1_secondsUntilDebt_61 (by decide) rfl rfl (by omega) (by omega) (fun c3 => ?_) (fun c3 => ?_)
        · exfalso; omega
        · refine lv_iconst (v := -1) hx hb dX1_secondsUntilDebt_64 (by decide) ?_
          refine lv_goto (tgt := 69) hx hb dX1_secondsUntilDebt_65 (by decide) ?_
          have hd : dbn (fun k => mPa (kp (up2 N 5 0 0)) T R k 3 (17 + r)) 101 0 = 101 := dbn_miss (g := (fun k => mPa (kp (up2 N 5 0 0)) T R k 3 (17 + r))) 101 0 (fun j _ h2 => han j (by omega))
          exact wr_i hC hr hlocks mov_M (by rw [hd]; exact hB) hS dX1_secondsUntilDebt_69 (by rw [hd]; rfl)
      · exfalso; omega
    · intro i hi ih han H locs hB hS ls hl
      refine lv_iload_n hx hb dX1_secondsUntilDebt_25 rfl (lv_at hl 0 rfl) ?_
      refine lv_bipush (v := 100) hx hb dX1_secondsUntilDebt_26 (by decide) ?_
      refine jgt (i := i) (j := 100) (tgt := 54) hC dX1_secondsUntilDebt_28 (by decide) rfl rfl (by omega) (by omega) (fun c4 => ?_) (fun c4 => ?_)
      · exfalso; omega
      · refine lv_aload_n hx hb dX1_secondsUntilDebt_31 rfl (lv_at hl 1 rfl) ?_
        refine gM_now hC hB dX1_secondsUntilDebt_32 ?_
        refine lv_bipush (v := 17) hx hb dX1_secondsUntilDebt_35 (by decide) ?_
        refine lv_iload_n hx hb dX1_secondsUntilDebt_37 rfl (lv_at hl 2 rfl) ?_
        refine xadd (v := nI (17 + r)) hC dX1_secondsUntilDebt_38 (nadd (i := 17) (j := r) rfl rfl) ?_
        refine lM_now (17 + r) hC hB rfl (by omega) rfl dX1_secondsUntilDebt_39 ?_
        refine lv_if_lt (tgt := 54) hx hb dX1_secondsUntilDebt_40 (by decide) (fun c5 => ?_) (fun c5 => ?_)
        · refine lv_aload_n hx hb dX1_secondsUntilDebt_54 rfl (lv_at hl 1 rfl) ?_
          refine kw_X1_bringBack hC (c_X1_bringBack l D cI b (mPa (kp (up2 N 5 0 0)) T R i)) hB rfl ⟨rfl, rfl⟩ ⟨Nat.le_of_ble_eq_true rfl, Nat.le_of_ble_eq_true rfl⟩ ⟨Nat.le_of_ble_eq_true rfl, Nat.le_of_ble_eq_true rfl⟩ hS hA hl.1 rfl (Nat.le_of_ble_eq_true rfl) dX1_secondsUntilDebt_55 (fun H locs hB hS => ?_)
          refine lv_iload_n hx hb dX1_secondsUntilDebt_58 rfl (lv_at hl 0 rfl) ?_
          refine lv_bipush (v := 100) hx hb dX1_secondsUntilDebt_59 (by decide) ?_
          refine jle (i := i) (j := 100) (tgt := 68) hC dX1_secondsUntilDebt_61 (by decide) rfl rfl (by omega) (by omega) (fun c6 => ?_) (fun c6 => ?_)
          · refine lv_iload_n hx hb dX1_secondsUntilDebt_68 rfl (lv_at hl 0 rfl) ?_
            have hd : dbn (fun k => mPa (kp (up2 N 5 0 0)) T R k 3 (17 + r)) 101 0 = i := dbn_hit (g := (fun k => mPa (kp (up2 N 5 0 0)) T R k 3 (17 + r))) (fun q9 => q9p c5 q9) 101 0 (by omega) (by omega) (fun j _ h2 => han j h2)
            exact wr_i hC hr hlocks mov_M (by rw [hd]; exact hB) hS dX1_secondsUntilDebt_69 (by rw [hd]; unfold mDb; rw [if_neg (by omega)])
          · exfalso; omega
        · refine lv_aload_n hx hb dX1_secondsUntilDebt_43 rfl (lv_at hl 1 rfl) ?_
          refine kw_X1_secondOn hC (c_X1_secondOn l D cI b (mPa (kp (up2 N 5 0 0)) T R i) (MI_pa (MI_kp (MI_5 hI))) (mP_pa (mP_kp (mP_5 hP)))) hB rfl ⟨rfl, rfl⟩ ⟨Nat.le_of_ble_eq_true rfl, Nat.le_of_ble_eq_true rfl⟩ ⟨Nat.le_of_ble_eq_true rfl, Nat.le_of_ble_eq_true rfl⟩ hS hA hl.1 rfl (Nat.le_of_ble_eq_true rfl) dX1_secondsUntilDebt_44 (fun H locs hB hS => ?_)
          refine lv_pop hx hb dX1_secondsUntilDebt_47 rfl ?_
          refine lv_iinc (v := nI (i + 1)) (lv' := [(2, .int (nI (i + 1))), (0, .ref (b 5)), (1, .int (nI r))]) hx hb dX1_secondsUntilDebt_48 hl (k := 0) rfl (ninc i) (by decide) rfl (fun ls hl => ?_)
          refine lv_goto (tgt := 25) hx hb dX1_secondsUntilDebt_51 (by decide) ?_
          exact ih (fun j h9 => by rcases (show j < i ∨ j = i by omega) with h8 | h8; exact han j h8; rw [h8]; exact q9n c5) H locs (hB) hS ls (lv_sub hl [0, 1, 2] rfl)
  · exfalso; revert c1; decide
set_option maxHeartbeats 8000000 in
set_option maxRecDepth 100000 in
theorem c_X1_digest_ok (l : Launch) (D : va_G) (cI : ClassId) (b : Nat → Nat) (N : bS) (sz : Nat) {T R : Nat} {u : Nat → Nat} (hI : MI N T R) (hU : ∀ t, t < T → mU N t (u t)) (hP : mP N T) : Wr l yX1_digest cX1_digest 10 (some .long) ({ frames := 6, cells := 9, slots := 64, locals := 135 } : Room) (fun U H => H.size = sz ∧ MW D cI b N U H) (MW D cI b (up2 N 5 0 0)) (fun q => inM b q ∨ sz ≤ q) [.ref (b 5)] (some (.long (mDg (up2 N 5 0 0) T R u))) 9 64 := by
  refine Wr.of (by decide) (Nat.le_of_ble_eq_true rfl) ?_
  intro p e s m args below meth c ls hC hr hlocks hB hS hl
  have hx := hC.1
  have hb := hC.2.1
  obtain ⟨hsz, hB⟩ := hB
  have hA : ∀ q, inM b q → (fun q => inM b q ∨ sz ≤ q) q := fun _ h => Or.inl h
  have hA1 : ∀ q, s.heap.size ≤ q → (fun q => inM b q ∨ sz ≤ q) q := fun q h => Or.inr (hsz ▸ h)
  obtain ⟨hT, hR0, hT8, hR6⟩ := id hI
  have hl : lv_has ls 10 [(0, .ref (b 5))] := hl
  refine lv_aload_n hx hb dX1_digest_0 rfl (lv_at hl 0 rfl) ?_
  refine lv_iconst (v := 0) hx hb dX1_digest_1 (by decide) ?_
  refine pM_thrown hC hB hS hA dX1_digest_2 (fun H locs hB hS => ?_)
  refine lv_bipush (v := 8) hx hb dX1_digest_5 (by decide) ?_
  refine nwM (n := 8) hC hB hS hA hA1 (by decide) rfl (by show _ ≤ 9; omega) (by show _ ≤ 64; omega) dX1_digest_7 (fun q1 cA H hR hqA hS => ?_)
  have hB := hR.toMW
  refine lv_dup hx hb dX1_digest_9 rfl ?_
  refine lv_iconst (v := 0) hx hb dX1_digest_10 (by decide) ?_
  refine lv_aload_n hx hb dX1_digest_11 rfl (lv_at hl 0 rfl) ?_
  refine gM_now hC hB dX1_digest_12 ?_
  refine lv_iconst (v := 0) hx hb dX1_digest_15 (by decide) ?_
  refine lM_now (v := N 3 0) (0) hC hB rfl (by omega) (by rw [up2_ne _ _ (by omega)]) dX1_digest_16 ?_
  refine stA (0) hC hR hS hA hqA (by decide) rfl (by omega) dX1_digest_17 (fun H locs hR hS => ?_)
  have hB := hR.toMW
  refine lv_dup hx hb dX1_digest_18 rfl ?_
  refine lv_iconst (v := 1) hx hb dX1_digest_19 (by decide) ?_
  refine lv_aload_n hx hb dX1_digest_20 rfl (lv_at hl 0 rfl) ?_
  refine gM_towers (v := nI T) hC hB (by rw [up2_ne _ _ (by omega)]; exact hT) dX1_digest_21 ?_
  refine stA (1) hC hR hS hA hqA (by decide) rfl (by omega) dX1_digest_24 (fun H locs hR hS => ?_)
  have hB := hR.toMW
  refine lv_dup hx hb dX1_digest_25 rfl ?_
  refine lv_iconst (v := 2) hx hb dX1_digest_26 (by decide) ?_
  refine lv_aload_n hx hb dX1_digest_27 rfl (lv_at hl 0 rfl) ?_
  refine gM_traders (v := nI R) hC hB (by rw [up2_ne _ _ (by omega)]; exact hR0) dX1_digest_28 ?_
  refine stA (2) hC hR hS hA hqA (by decide) rfl (by omega) dX1_digest_31 (fun H locs hR hS => ?_)
  have hB := hR.toMW
  refine lv_dup hx hb dX1_digest_32 rfl ?_
  refine lv_iconst (v := 3) hx hb dX1_digest_33 (by decide) ?_
  refine lv_aload_n hx hb dX1_digest_34 rfl (lv_at hl 0 rfl) ?_
  refine k_X1_dear hC (c_X1_dear l D cI b (up2 N 5 0 0) (MI_5 (hI))) hB rfl ⟨rfl, rfl⟩ ⟨Nat.le_of_ble_eq_true rfl, Nat.le_of_ble_eq_true rfl⟩ ⟨(by show _ ≤ 9; omega), (by show _ ≤ 64; omega)⟩ hl.1 rfl (Nat.le_of_ble_eq_true rfl) dX1_digest_35 ?_
  refine stA (3) hC hR hS hA hqA (by decide) rfl (by omega) dX1_digest_38 (fun H locs hR hS => ?_)
  have hB := hR.toMW
  refine lv_dup hx hb dX1_digest_39 rfl ?_
  refine lv_iconst (v := 4) hx hb dX1_digest_40 (by decide) ?_
  refine lv_aload_n hx hb dX1_digest_41 rfl (lv_at hl 0 rfl) ?_
  refine k_X1_next hC (c_X1_next l D cI b (up2 N 5 0 0) (u := u) (MI_5 (hI)) (mU_5 (hU)) (mP_5 (hP))) hB rfl ⟨rfl, rfl⟩ ⟨Nat.le_of_ble_eq_true rfl, Nat.le_of_ble_eq_true rfl⟩ ⟨(by show _ ≤ 9; omega), (by show _ ≤ 64; omega)⟩ hl.1 rfl (Nat.le_of_ble_eq_true rfl) dX1_digest_42 ?_
  refine stA (4) hC hR hS hA hqA (by decide) rfl (by omega) dX1_digest_45 (fun H locs hR hS => ?_)
  have hB := hR.toMW
  refine lv_dup hx hb dX1_digest_46 rfl ?_
  refine lv_iconst (v := 5) hx hb dX1_digest_47 (by decide) ?_
  refine lv_aload_n hx hb dX1_digest_48 rfl (lv_at hl 0 rfl) ?_
  refine k_X1_rich hC (c_X1_rich l D cI b (up2 N 5 0 0) (MI_5 (hI))) hB rfl ⟨rfl, rfl⟩ ⟨Nat.le_of_ble_eq_true rfl, Nat.le_of_ble_eq_true rfl⟩ ⟨(by show _ ≤ 9; omega), (by show _ ≤ 64; omega)⟩ hl.1 rfl (Nat.le_of_ble_eq_true rfl) dX1_digest_49 ?_
  refine stA (5) hC hR hS hA hqA (by decide) rfl (by omega) dX1_digest_52 (fun H locs hR hS => ?_)
  have hB := hR.toMW
  refine lv_dup hx hb dX1_digest_53 rfl ?_
  refine lv_bipush (v := 6) hx hb dX1_digest_54 (by decide) ?_
  refine lv_aload_n hx hb dX1_digest_56 rfl (lv_at hl 0 rfl) ?_
  refine k_X1_owing hC (c_X1_owing l D cI b (up2 N 5 0 0) (MI_5 (hI))) hB rfl ⟨rfl, rfl⟩ ⟨Nat.le_of_ble_eq_true rfl, Nat.le_of_ble_eq_true rfl⟩ ⟨(by show _ ≤ 9; omega), (by show _ ≤ 64; omega)⟩ hl.1 rfl (Nat.le_of_ble_eq_true rfl) dX1_digest_57 ?_
  refine stA (6) hC hR hS hA hqA (by decide) rfl (by omega) dX1_digest_60 (fun H locs hR hS => ?_)
  have hB := hR.toMW
  refine lv_dup hx hb dX1_digest_61 rfl ?_
  refine lv_bipush (v := 7) hx hb dX1_digest_62 (by decide) ?_
  refine lv_aload_n hx hb dX1_digest_64 rfl (lv_at hl 0 rfl) ?_
  refine k_X1_toBuy hC (c_X1_toBuy l D cI b (up2 N 5 0 0) (u := u) (MI_5 (hI)) (mU_5 (hU)) (mP_5 (hP))) hB rfl ⟨rfl, rfl⟩ ⟨Nat.le_of_ble_eq_true rfl, Nat.le_of_ble_eq_true rfl⟩ ⟨(by show _ ≤ 9; omega), (by show _ ≤ 64; omega)⟩ hl.1 rfl (Nat.le_of_ble_eq_true rfl) dX1_digest_65 ?_
  refine stA (7) hC hR hS hA hqA (by decide) rfl (by omega) dX1_digest_68 (fun H locs hR hS => ?_)
  have hB := hR.toMW
  have hR : MWA D cI b (up2 N 5 0 0) cA q1 8 (mAll (up2 N 5 0 0) T R u) s H := hR
  refine lv_astore_n (lv' := [(1, .ref (q1)), (0, .ref (b 5))]) hx hb dX1_digest_69 rfl hl (by decide) rfl (fun ls hl => ?_)
  refine lv_ldc2 hx hb hC.2.2.2.1 (v := 2081) (hC.2.2.2.2 _ (List.mem_of_getElem? (i := 556) (by decide +kernel))) dX1_digest_70 ?_
  refine lv_lstore_n (lv' := [(2, .long (2081)), (1, .ref (q1)), (0, .ref (b 5))]) hx hb dX1_digest_73 rfl hl (by decide) rfl (fun ls hl => ?_)
  refine lv_aload_n hx hb dX1_digest_74 rfl (lv_at hl 1 rfl) ?_
  refine lv_astore (lv' := [(4, .ref (q1)), (2, .long (2081)), (1, .ref (q1)), (0, .ref (b 5))]) hx hb dX1_digest_75 hl (by decide) rfl (fun ls hl => ?_)
  refine lv_aload hx hb dX1_digest_77 (lv_at hl 0 rfl) ?_
  refine lenA hC hR dX1_digest_79 ?_
  refine lv_istore (lv' := [(5, .int (nI 8)), (4, .ref (q1)), (2, .long (2081)), (1, .ref (q1)), (0, .ref (b 5))]) hx hb dX1_digest_80 hl (by decide) rfl (fun ls hl => ?_)
  refine lv_iconst (v := 0) hx hb dX1_digest_82 (by decide) ?_
  refine lv_istore (lv' := [(6, .int (0)), (5, .int (nI 8)), (4, .ref (q1)), (2, .long (2081)), (1, .ref (q1)), (0, .ref (b 5))]) hx hb dX1_digest_83 hl (by decide) rfl (fun ls hl => ?_)
  refine loopU (P := fun i => ∀ ls : Array Slot, lv_has ls 10 [(6, .int (nI i)), (2, .long (lfo (fun d j => mi d (mAll (up2 N 5 0 0) T R u j)) 2081 i)), (5, .int (nI 8)), (4, .ref (q1)), (0, .ref (b 5))] → W p l e ({ frames := 6, cells := 9, slots := 64, locals := 135 } : Room) s m args below meth c H locs (0 + 1) (0 + 8) (MQ below (qW (some (.long (mDg (up2 N 5 0 0) T R u))) (MW D cI b (up2 N 5 0 0)) (fun q => inM b q ∨ sz ≤ q)) args s 9 64 (fun q => inM b q ∨ sz ≤ q)) (F0 m 85 ls [])) (8) ?_ ?_ 0 (by omega) ls (by first | exact lv_sub hl [0, 3, 1, 2, 5] rfl | (simpa using lv_sub hl [0, 3, 1, 2, 5] rfl))
  · intro ls hl
    refine lv_iload hx hb dX1_digest_85 (lv_at hl 0 rfl) ?_
    refine lv_iload hx hb dX1_digest_87 (lv_at hl 2 rfl) ?_
    refine jge (i := 8) (j := 8) (tgt := 115) hC dX1_digest_89 (by decide) rfl rfl (by omega) (by omega) (fun c1 => ?_) (fun c1 => ?_)
    · refine lv_iconst (v := 0) hx hb dX1_digest_115 (by decide) ?_
      refine lv_istore (lv' := [(4, .int (0)), (6, .int (nI 8)), (2, .long (lfo (fun d j => mi d (mAll (up2 N 5 0 0) T R u j)) 2081 8)), (5, .int (nI 8)), (0, .ref (b 5))]) hx hb dX1_digest_116 hl (by decide) rfl (fun ls hl => ?_)
      refine loopU (P := fun i => ∀ (H : Heap) (locs : List Loc), MW D cI b ((up2 N 5 0 0)) s H → va_S (fun q => inM b q ∨ sz ≤ q) s.heap H locs → ∀ ls : Array Slot, lv_has ls 10 [(4, .int (nI i)), (2, .long (lfo (mDt (up2 N 5 0 0) R u) (lfo (fun d j => mi d (mAll (up2 N 5 0 0) T R u j)) 2081 8) i)), (0, .ref (b 5))] → W p l e ({ frames := 6, cells := 9, slots := 64, locals := 135 } : Room) s m args below meth c H locs (0 + 1 + i) (0 + 8 + 7 * i) (MQ below (qW (some (.long (mDg (up2 N 5 0 0) T R u))) (MW D cI b (up2 N 5 0 0)) (fun q => inM b q ∨ sz ≤ q)) args s 9 64 (fun q => inM b q ∨ sz ≤ q)) (F0 m 118 ls [])) (T) ?_ ?_ 0 (by omega) H locs hB hS ls (by first | exact lv_sub hl [0, 2, 4] rfl | (simpa using lv_sub hl [0, 2, 4] rfl))
      · intro H locs hB hS ls hl
        refine lv_iload hx hb dX1_digest_118 (lv_at hl 0 rfl) ?_
        refine lv_aload_n hx hb dX1_digest_120 rfl (lv_at hl 2 rfl) ?_
        refine gM_towers hC hB hT dX1_digest_121 ?_
        refine jge (i := T) (j := T) (tgt := 252) hC dX1_digest_124 (by decide) rfl rfl (by omega) (by omega) (fun c2 => ?_) (fun c2 => ?_)
        · refine lv_iconst (v := 0) hx hb dX1_digest_252 (by decide) ?_
          refine lv_istore (lv' := [(4, .int (0)), (2, .long (lfo (mDt (up2 N 5 0 0) R u) (lfo (fun d j => mi d (mAll (up2 N 5 0 0) T R u j)) 2081 8) T)), (0, .ref (b 5))]) hx hb dX1_digest_253 hl (by decide) rfl (fun ls hl => ?_)
          refine loopU (P := fun i => ∀ ls : Array Slot, lv_has ls 10 [(4, .int (nI i)), (2, .long (lfo (mDr (up2 N 5 0 0) T R) (lfo (mDt (up2 N 5 0 0) R u) (lfo (fun d j => mi d (mAll (up2 N 5 0 0) T R u j)) 2081 8) T) i)), (0, .ref (b 5))] → W p l e ({ frames := 6, cells := 9, slots := 64, locals := 135 } : Room) s m args below meth c H locs (0 + 1 + T) (0 + 8 + 7 * T) (MQ below (qW (some (.long (mDg (up2 N 5 0 0) T R u))) (MW D cI b (up2 N 5 0 0)) (fun q => inM b q ∨ sz ≤ q)) args s 9 64 (fun q => inM b q ∨ sz ≤ q)) (F0 m 255 ls [])) (R) ?_ ?_ 0 (by omega) ls (by first | exact lv_sub hl [0, 1, 2] rfl | (simpa using lv_sub hl [0, 1, 2] rfl))
          · intro ls hl
            refine lv_iload hx hb dX1_digest_255 (lv_at hl 0 rfl) ?_
            refine lv_aload_n hx hb dX1_digest_257 rfl (lv_at hl 2 rfl) ?_
            refine gM_traders hC hB hR0 dX1_digest_258 ?_
            refine jge (i := R) (j := R) (tgt := 354) hC dX1_digest_261 (by decide) rfl rfl (by omega) (by omega) (fun c3 => ?_) (fun c3 => ?_)
            · refine lv_lload_n hx hb dX1_digest_354 rfl (lv_at hl 1 rfl) ?_
              refine W.widen (k := 9) (n := 64) (by omega) (by omega) ?_
              exact wr_l hC hr hlocks mov_M hB hS dX1_digest_355 (by rfl)
            · exfalso; omega
          · intro i hi ih ls hl
            refine lv_iload hx hb dX1_digest_255 (lv_at hl 0 rfl) ?_
            refine lv_aload_n hx hb dX1_digest_257 rfl (lv_at hl 2 rfl) ?_
            refine gM_traders hC hB hR0 dX1_digest_258 ?_
            refine jge (i := i) (j := R) (tgt := 354) hC dX1_digest_261 (by decide) rfl rfl (by omega) (by omega) (fun c4 => ?_) (fun c4 => ?_)
            · exfalso; omega
            · refine lv_lload_n hx hb dX1_digest_264 rfl (lv_at hl 1 rfl) ?_
              refine lv_ldc2 hx hb hC.2.2.2.1 (v := 31) (hC.2.2.2.2 _ (List.mem_of_getElem? (i := 557) (by decide +kernel))) dX1_digest_265 ?_
              refine lv_lmul hx hb dX1_digest_268 ?_
              refine lv_aload_n hx hb dX1_digest_269 rfl (lv_at hl 2 rfl) ?_
              refine gM_now hC hB dX1_digest_270 ?_
              refine lv_bipush (v := 17) hx hb dX1_digest_273 (by decide) ?_
              refine lv_iload hx hb dX1_digest_275 (lv_at hl 0 rfl) ?_
              refine xadd (v := nI (17 + i)) hC dX1_digest_277 (nadd (i := 17) (j := i) rfl rfl) ?_
              refine lM_now (17 + i) hC hB rfl (by omega) rfl dX1_digest_278 ?_
              refine lv_i2l (v := ((up2 N 5 0 0) 3 (17 + i)).toInt64) hx hb dX1_digest_279 rfl ?_
              refine lv_ladd hx hb dX1_digest_280 ?_
              refine lv_lstore_n (lv' := [(2, .long (((lfo (mDr (up2 N 5 0 0) T R) (lfo (mDt (up2 N 5 0 0) R u) (lfo (fun d j => mi d (mAll (up2 N 5 0 0) T R u j)) 2081 8) T) i) * 31) + (((up2 N 5 0 0) 3 (17 + i)).toInt64))), (4, .int (nI i)), (0, .ref (b 5))]) hx hb dX1_digest_281 rfl hl (by decide) rfl (fun ls hl => ?_)
              refine lv_lload_n hx hb dX1_digest_282 rfl (lv_at hl 0 rfl) ?_
              refine lv_ldc2 hx hb hC.2.2.2.1 (v := 31) (hC.2.2.2.2 _ (List.mem_of_getElem? (i := 557) (by decide +kernel))) dX1_digest_283 ?_
              refine lv_lmul hx hb dX1_digest_286 ?_
              refine lv_aload_n hx hb dX1_digest_287 rfl (lv_at hl 2 rfl) ?_
              refine lv_iload hx hb dX1_digest_288 (lv_at hl 1 rfl) ?_
              refine k_X1_worth hC (c_X1_worth l D cI b (up2 N 5 0 0) (r := i) (MI_5 hI) (by omega)) hB rfl ⟨rfl, rfl⟩ ⟨Nat.le_of_ble_eq_true rfl, Nat.le_of_ble_eq_true rfl⟩ ⟨(by show _ ≤ 9; omega), (by show _ ≤ 64; omega)⟩ hl.1 rfl (Nat.le_of_ble_eq_true rfl) dX1_digest_290 ?_
              refine lv_i2l (v := (mWo (up2 N 5 0 0) T R i).toInt64) hx hb dX1_digest_293 rfl ?_
              refine lv_ladd hx hb dX1_digest_294 ?_
              refine lv_lstore_n (lv' := [(2, .long (((((lfo (mDr (up2 N 5 0 0) T R) (lfo (mDt (up2 N 5 0 0) R u) (lfo (fun d j => mi d (mAll (up2 N 5 0 0) T R u j)) 2081 8) T) i) * 31) + (((up2 N 5 0 0) 3 (17 + i)).toInt64)) * 31) + ((mWo (up2 N 5 0 0) T R i).toInt64))), (4, .int (nI i)), (0, .ref (b 5))]) hx hb dX1_digest_295 rfl hl (by decide) rfl (fun ls hl => ?_)
              refine lv_lload_n hx hb dX1_digest_296 rfl (lv_at hl 0 rfl) ?_
              refine lv_ldc2 hx hb hC.2.2.2.1 (v := 31) (hC.2.2.2.2 _ (List.mem_of_getElem? (i := 557) (by decide +kernel))) dX1_digest_297 ?_
              refine lv_lmul hx hb dX1_digest_300 ?_
              refine lv_aload_n hx hb dX1_digest_301 rfl (lv_at hl 2 rfl) ?_
              refine lv_iload hx hb dX1_digest_302 (lv_at hl 1 rfl) ?_
              refine k_X1_shorts hC (c_X1_shorts l D cI b (up2 N 5 0 0) (r := i) (MI_5 hI) (by omega)) hB rfl ⟨rfl, rfl⟩ ⟨Nat.le_of_ble_eq_true rfl, Nat.le_of_ble_eq_true rfl⟩ ⟨(by show _ ≤ 9; omega), (by show _ ≤ 64; omega)⟩ hl.1 rfl (Nat.le_of_ble_eq_true rfl) dX1_digest_304 ?_
              refine lv_i2l (v := (mSh (up2 N 5 0 0) T i).toInt64) hx hb dX1_digest_307 rfl ?_
              refine lv_ladd hx hb dX1_digest_308 ?_
              refine lv_lstore_n (lv' := [(2, .long (((((((lfo (mDr (up2 N 5 0 0) T R) (lfo (mDt (up2 N 5 0 0) R u) (lfo (fun d j => mi d (mAll (up2 N 5 0 0) T R u j)) 2081 8) T) i) * 31) + (((up2 N 5 0 0) 3 (17 + i)).toInt64)) * 31) + ((mWo (up2 N 5 0 0) T R i).toInt64)) * 31) + ((mSh (up2 N 5 0 0) T i).toInt64))), (4, .int (nI i)), (0, .ref (b 5))]) hx hb dX1_digest_309 rfl hl (by decide) rfl (fun ls hl => ?_)
              refine lv_iconst (v := 0) hx hb dX1_digest_310 (by decide) ?_
              refine lv_istore (lv' := [(5, .int (0)), (2, .long (((((((lfo (mDr (up2 N 5 0 0) T R) (lfo (mDt (up2 N 5 0 0) R u) (lfo (fun d j => mi d (mAll (up2 N 5 0 0) T R u j)) 2081 8) T) i) * 31) + (((up2 N 5 0 0) 3 (17 + i)).toInt64)) * 31) + ((mWo (up2 N 5 0 0) T R i).toInt64)) * 31) + ((mSh (up2 N 5 0 0) T i).toInt64))), (4, .int (nI i)), (0, .ref (b 5))]) hx hb dX1_digest_311 hl (by decide) rfl (fun ls hl => ?_)
              refine loopU (P := fun j => ∀ ls : Array Slot, lv_has ls 10 [(5, .int (nI j)), (2, .long (lfo (fun d t => mi d ((up2 N 5 0 0) 3 (23 + 8 * i + t))) (mi (mi (mi (lfo (mDr (up2 N 5 0 0) T R) (lfo (mDt (up2 N 5 0 0) R u) (lfo (fun d j => mi d (mAll (up2 N 5 0 0) T R u j)) 2081 8) T) i) ((up2 N 5 0 0) 3 (17 + i))) (mWo (up2 N 5 0 0) T R i)) (mSh (up2 N 5 0 0) T i)) j)), (4, .int (nI i)), (0, .ref (b 5))] → W p l e ({ frames := 6, cells := 9, slots := 64, locals := 135 } : Room) s m args below meth c H locs (0 + 1 + T) (0 + 8 + 7 * T) (MQ below (qW (some (.long (mDg (up2 N 5 0 0) T R u))) (MW D cI b (up2 N 5 0 0)) (fun q => inM b q ∨ sz ≤ q)) args s 9 64 (fun q => inM b q ∨ sz ≤ q)) (F0 m 313 ls [])) (T) ?_ ?_ 0 (by omega) ls (by first | exact lv_sub hl [0, 1, 2, 3] rfl | (simpa using lv_sub hl [0, 1, 2, 3] rfl))
              · intro ls hl
                refine lv_iload hx hb dX1_digest_313 (lv_at hl 0 rfl) ?_
                refine lv_aload_n hx hb dX1_digest_315 rfl (lv_at hl 3 rfl) ?_
                refine gM_towers hC hB hT dX1_digest_316 ?_
                refine jge (i := T) (j := T) (tgt := 348) hC dX1_digest_319 (by decide) rfl rfl (by omega) (by omega) (fun c5 => ?_) (fun c5 => ?_)
                · refine lv_iinc (v := nI (i + 1)) (lv' := [(4, .int (nI (i + 1))), (5, .int (nI T)), (2, .long (lfo (fun d t => mi d ((up2 N 5 0 0) 3 (23 + 8 * i + t))) (mi (mi (mi (lfo (mDr (up2 N 5 0 0) T R) (lfo (mDt (up2 N 5 0 0) R u) (lfo (fun d j => mi d (mAll (up2 N 5 0 0) T R u j)) 2081 8) T) i) ((up2 N 5 0 0) 3 (17 + i))) (mWo (up2 N 5 0 0) T R i)) (mSh (up2 N 5 0 0) T i)) T)), (0, .ref (b 5))]) hx hb dX1_digest_348 hl (k := 2) rfl (ninc i) (by decide) rfl (fun ls hl => ?_)
                  refine lv_goto (tgt := 255) hx hb dX1_digest_351 (by decide) ?_
                  exact ih ls (lv_sub hl [0, 2, 3] rfl)
                · exfalso; omega
              · intro j hj jh ls hl
                refine lv_iload hx hb dX1_digest_313 (lv_at hl 0 rfl) ?_
                refine lv_aload_n hx hb dX1_digest_315 rfl (lv_at hl 3 rfl) ?_
                refine gM_towers hC hB hT dX1_digest_316 ?_
                refine jge (i := j) (j := T) (tgt := 348) hC dX1_digest_319 (by decide) rfl rfl (by omega) (by omega) (fun c6 => ?_) (fun c6 => ?_)
                · exfalso; omega
                · refine lv_lload_n hx hb dX1_digest_322 rfl (lv_at hl 1 rfl) ?_
                  refine lv_ldc2 hx hb hC.2.2.2.1 (v := 31) (hC.2.2.2.2 _ (List.mem_of_getElem? (i := 557) (by decide +kernel))) dX1_digest_323 ?_
                  refine lv_lmul hx hb dX1_digest_326 ?_
                  refine lv_aload_n hx hb dX1_digest_327 rfl (lv_at hl 3 rfl) ?_
                  refine gM_now hC hB dX1_digest_328 ?_
                  refine lv_iload hx hb dX1_digest_331 (lv_at hl 2 rfl) ?_
                  refine lv_iload hx hb dX1_digest_333 (lv_at hl 0 rfl) ?_
                  refine k_X1_at hC (c_X1_at l (r := i) (t := j)) mov_T trivial rfl ⟨rfl, rfl⟩ ⟨Nat.le_of_ble_eq_true rfl, Nat.le_of_ble_eq_true rfl⟩ ⟨(by show _ ≤ 9; omega), (by show _ ≤ 64; omega)⟩ hl.1 rfl (Nat.le_of_ble_eq_true rfl) dX1_digest_335 ?_
                  refine lM_now (23 + 8 * i + j) hC hB rfl (by omega) rfl dX1_digest_338 ?_
                  refine lv_i2l (v := ((up2 N 5 0 0) 3 (23 + 8 * i + j)).toInt64) hx hb dX1_digest_339 rfl ?_
                  refine lv_ladd hx hb dX1_digest_340 ?_
                  refine lv_lstore_n (lv' := [(2, .long (((lfo (fun d t => mi d ((up2 N 5 0 0) 3 (23 + 8 * i + t))) (mi (mi (mi (lfo (mDr (up2 N 5 0 0) T R) (lfo (mDt (up2 N 5 0 0) R u) (lfo (fun d j => mi d (mAll (up2 N 5 0 0) T R u j)) 2081 8) T) i) ((up2 N 5 0 0) 3 (17 + i))) (mWo (up2 N 5 0 0) T R i)) (mSh (up2 N 5 0 0) T i)) j) * 31) + (((up2 N 5 0 0) 3 (23 + 8 * i + j)).toInt64))), (5, .int (nI j)), (4, .int (nI i)), (0, .ref (b 5))]) hx hb dX1_digest_341 rfl hl (by decide) rfl (fun ls hl => ?_)
                  refine lv_iinc (v := nI (j + 1)) (lv' := [(5, .int (nI (j + 1))), (2, .long (((lfo (fun d t => mi d ((up2 N 5 0 0) 3 (23 + 8 * i + t))) (mi (mi (mi (lfo (mDr (up2 N 5 0 0) T R) (lfo (mDt (up2 N 5 0 0) R u) (lfo (fun d j => mi d (mAll (up2 N 5 0 0) T R u j)) 2081 8) T) i) ((up2 N 5 0 0) 3 (17 + i))) (mWo (up2 N 5 0 0) T R i)) (mSh (up2 N 5 0 0) T i)) j) * 31) + (((up2 N 5 0 0) 3 (23 + 8 * i + j)).toInt64))), (4, .int (nI i)), (0, .ref (b 5))]) hx hb dX1_digest_342 hl (k := 1) rfl (ninc j) (by decide) rfl (fun ls hl => ?_)
                  refine lv_goto (tgt := 313) hx hb dX1_digest_345 (by decide) ?_
                  exact jh ls (lv_sub hl [0, 1, 2, 3] rfl)
        · exfalso; omega
      · intro i hi ih H locs hB hS ls hl
        refine lv_iload hx hb dX1_digest_118 (lv_at hl 0 rfl) ?_
        refine lv_aload_n hx hb dX1_digest_120 rfl (lv_at hl 2 rfl) ?_
        refine gM_towers hC hB hT dX1_digest_121 ?_
        refine jge (i := i) (j := T) (tgt := 252) hC dX1_digest_124 (by decide) rfl rfl (by omega) (by omega) (fun c7 => ?_) (fun c7 => ?_)
        · exfalso; omega
        · refine lv_bipush (v := 7) hx hb dX1_digest_127 (by decide) ?_
          refine nwM (n := 7) hC hB hS hA hA1 (by decide) rfl (by show _ ≤ 9; omega) (by show _ ≤ 64; omega) dX1_digest_129 (fun q1 cA H hR hqA hS => ?_)
          have hB := hR.toMW
          refine lv_dup hx hb dX1_digest_131 rfl ?_
          refine lv_iconst (v := 0) hx hb dX1_digest_132 (by decide) ?_
          refine lv_aload_n hx hb dX1_digest_133 rfl (lv_at hl 2 rfl) ?_
          refine gM_now hC hB dX1_digest_134 ?_
          refine lv_iconst (v := 1) hx hb dX1_digest_137 (by decide) ?_
          refine lv_iload hx hb dX1_digest_138 (lv_at hl 0 rfl) ?_
          refine xadd (v := nI (1 + i)) hC dX1_digest_140 (nadd (i := 1) (j := i) rfl rfl) ?_
          refine lM_now (1 + i) hC hB rfl (by omega) rfl dX1_digest_141 ?_
          refine stA (0) hC hR hS hA hqA (by decide) rfl (by omega) dX1_digest_142 (fun H locs hR hS => ?_)
          have hB := hR.toMW
          refine lv_dup hx hb dX1_digest_143 rfl ?_
          refine lv_iconst (v := 1) hx hb dX1_digest_144 (by decide) ?_
          refine lv_aload_n hx hb dX1_digest_145 rfl (lv_at hl 2 rfl) ?_
          refine lv_iload hx hb dX1_digest_146 (lv_at hl 0 rfl) ?_
          refine k_X1_doves hC (c_X1_doves l D cI b (up2 N 5 0 0) (t := i) (MI_5 hI) (by omega)) hB rfl ⟨rfl, rfl⟩ ⟨Nat.le_of_ble_eq_true rfl, Nat.le_of_ble_eq_true rfl⟩ ⟨(by show _ ≤ 9; omega), (by show _ ≤ 64; omega)⟩ hl.1 rfl (Nat.le_of_ble_eq_true rfl) dX1_digest_148 ?_
          refine stA (1) hC hR hS hA hqA (by decide) rfl (by omega) dX1_digest_151 (fun H locs hR hS => ?_)
          have hB := hR.toMW
          refine lv_dup hx hb dX1_digest_152 rfl ?_
          refine lv_iconst (v := 2) hx hb dX1_digest_153 (by decide) ?_
          refine lv_aload_n hx hb dX1_digest_154 rfl (lv_at hl 2 rfl) ?_
          refine lv_iload hx hb dX1_digest_155 (lv_at hl 0 rfl) ?_
          refine k_X1_price hC (c_X1_price l D cI b (up2 N 5 0 0) (t := i) (MI_5 hI) (by omega)) hB rfl ⟨rfl, rfl⟩ ⟨Nat.le_of_ble_eq_true rfl, Nat.le_of_ble_eq_true rfl⟩ ⟨(by show _ ≤ 9; omega), (by show _ ≤ 64; omega)⟩ hl.1 rfl (Nat.le_of_ble_eq_true rfl) dX1_digest_157 ?_
          refine stA (2) hC hR hS hA hqA (by decide) rfl (by omega) dX1_digest_160 (fun H locs hR hS => ?_)
          have hB := hR.toMW
          refine lv_dup hx hb dX1_digest_161 rfl ?_
          refine lv_iconst (v := 3) hx hb dX1_digest_162 (by decide) ?_
          refine lv_aload_n hx hb dX1_digest_163 rfl (lv_at hl 2 rfl) ?_
          refine lv_iload hx hb dX1_digest_164 (lv_at hl 0 rfl) ?_
          refine k_X1_until hC (c_X1_until l D cI b (up2 N 5 0 0) (t := i) (MI_5 hI) (by omega) ((hU) _ (by omega)) (mP_5 hP)) hB rfl ⟨rfl, rfl⟩ ⟨Nat.le_of_ble_eq_true rfl, Nat.le_of_ble_eq_true rfl⟩ ⟨(by show _ ≤ 9; omega), (by show _ ≤ 64; omega)⟩ hl.1 rfl (Nat.le_of_ble_eq_true rfl) dX1_digest_166 ?_
          refine stA (3) hC hR hS hA hqA (by decide) rfl (by omega) dX1_digest_169 (fun H locs hR hS => ?_)
          have hB := hR.toMW
          refine lv_dup hx hb dX1_digest_170 rfl ?_
          refine lv_iconst (v := 4) hx hb dX1_digest_171 (by decide) ?_
          refine lv_aload_n hx hb dX1_digest_172 rfl (lv_at hl 2 rfl) ?_
          refine gM_now hC hB dX1_digest_173 ?_
          refine lv_bipush (v := 9) hx hb dX1_digest_176 (by decide) ?_
          refine lv_iload hx hb dX1_digest_178 (lv_at hl 0 rfl) ?_
          refine xadd (v := nI (9 + i)) hC dX1_digest_180 (nadd (i := 9) (j := i) rfl rfl) ?_
          refine lM_now (9 + i) hC hB rfl (by omega) rfl dX1_digest_181 ?_
          refine stA (4) hC hR hS hA hqA (by decide) rfl (by omega) dX1_digest_182 (fun H locs hR hS => ?_)
          have hB := hR.toMW
          refine lv_dup hx hb dX1_digest_183 rfl ?_
          refine lv_iconst (v := 5) hx hb dX1_digest_184 (by decide) ?_
          refine lv_aload_n hx hb dX1_digest_185 rfl (lv_at hl 2 rfl) ?_
          refine lv_iload hx hb dX1_digest_186 (lv_at hl 0 rfl) ?_
          refine k_X1_open hC (c_X1_open l D cI b (up2 N 5 0 0) (t := i) (MI_5 hI) (by omega)) hB rfl ⟨rfl, rfl⟩ ⟨Nat.le_of_ble_eq_true rfl, Nat.le_of_ble_eq_true rfl⟩ ⟨(by show _ ≤ 9; omega), (by show _ ≤ 64; omega)⟩ hl.1 rfl (Nat.le_of_ble_eq_true rfl) dX1_digest_188 ?_
          refine stA (5) hC hR hS hA hqA (by decide) rfl (by omega) dX1_digest_191 (fun H locs hR hS => ?_)
          have hB := hR.toMW
          refine lv_dup hx hb dX1_digest_192 rfl ?_
          refine lv_bipush (v := 6) hx hb dX1_digest_193 (by decide) ?_
          refine lv_aload_n hx hb dX1_digest_195 rfl (lv_at hl 2 rfl) ?_
          refine lv_iload hx hb dX1_digest_196 (lv_at hl 0 rfl) ?_
          refine k_X1_closing hC (c_X1_closing l D cI b (up2 N 5 0 0) (u := u) (t := i) (MI_5 hI) (by omega) (hU) (mP_5 hP)) hB rfl ⟨rfl, rfl⟩ ⟨Nat.le_of_ble_eq_true rfl, Nat.le_of_ble_eq_true rfl⟩ ⟨(by show _ ≤ 9; omega), (by show _ ≤ 64; omega)⟩ hl.1 rfl (Nat.le_of_ble_eq_true rfl) dX1_digest_198 ?_
          refine stA (6) hC hR hS hA hqA (by decide) rfl (by omega) dX1_digest_201 (fun H locs hR hS => ?_)
          have hB := hR.toMW
          have hR : MWA D cI b (up2 N 5 0 0) cA q1 7 (mOf (up2 N 5 0 0) R u i) s H := hR
          refine lv_astore (lv' := [(5, .ref (q1)), (4, .int (nI i)), (2, .long (lfo (mDt (up2 N 5 0 0) R u) (lfo (fun d j => mi d (mAll (up2 N 5 0 0) T R u j)) 2081 8) i)), (0, .ref (b 5))]) hx hb dX1_digest_202 hl (by decide) rfl (fun ls hl => ?_)
          refine lv_aload hx hb dX1_digest_204 (lv_at hl 0 rfl) ?_
          refine lv_astore (lv' := [(6, .ref (q1)), (5, .ref (q1)), (4, .int (nI i)), (2, .long (lfo (mDt (up2 N 5 0 0) R u) (lfo (fun d j => mi d (mAll (up2 N 5 0 0) T R u j)) 2081 8) i)), (0, .ref (b 5))]) hx hb dX1_digest_206 hl (by decide) rfl (fun ls hl => ?_)
          refine lv_aload hx hb dX1_digest_208 (lv_at hl 0 rfl) ?_
          refine lenA hC hR dX1_digest_210 ?_
          refine lv_istore (lv' := [(7, .int (nI 7)), (6, .ref (q1)), (5, .ref (q1)), (4, .int (nI i)), (2, .long (lfo (mDt (up2 N 5 0 0) R u) (lfo (fun d j => mi d (mAll (up2 N 5 0 0) T R u j)) 2081 8) i)), (0, .ref (b 5))]) hx hb dX1_digest_211 hl (by decide) rfl (fun ls hl => ?_)
          refine lv_iconst (v := 0) hx hb dX1_digest_213 (by decide) ?_
          refine lv_istore (lv' := [(8, .int (0)), (7, .int (nI 7)), (6, .ref (q1)), (5, .ref (q1)), (4, .int (nI i)), (2, .long (lfo (mDt (up2 N 5 0 0) R u) (lfo (fun d j => mi d (mAll (up2 N 5 0 0) T R u j)) 2081 8) i)), (0, .ref (b 5))]) hx hb dX1_digest_214 hl (by decide) rfl (fun ls hl => ?_)
          refine loopU (P := fun j => ∀ ls : Array Slot, lv_has ls 10 [(8, .int (nI j)), (2, .long (lfo (fun d j => mi d (mOf (up2 N 5 0 0) R u i j)) (lfo (mDt (up2 N 5 0 0) R u) (lfo (fun d j => mi d (mAll (up2 N 5 0 0) T R u j)) 2081 8) i) j)), (7, .int (nI 7)), (6, .ref (q1)), (4, .int (nI i)), (0, .ref (b 5))] → W p l e ({ frames := 6, cells := 9, slots := 64, locals := 135 } : Room) s m args below meth c H locs (0 + 1 + i + 1) (0 + 8 + 7 * i + 7) (MQ below (qW (some (.long (mDg (up2 N 5 0 0) T R u))) (MW D cI b (up2 N 5 0 0)) (fun q => inM b q ∨ sz ≤ q)) args s 9 64 (fun q => inM b q ∨ sz ≤ q)) (F0 m 216 ls [])) (7) ?_ ?_ 0 (by omega) ls (by first | exact lv_sub hl [0, 5, 1, 2, 4, 6] rfl | (simpa using lv_sub hl [0, 5, 1, 2, 4, 6] rfl))
          · intro ls hl
            refine lv_iload hx hb dX1_digest_216 (lv_at hl 0 rfl) ?_
            refine lv_iload hx hb dX1_digest_218 (lv_at hl 2 rfl) ?_
            refine jge (i := 7) (j := 7) (tgt := 246) hC dX1_digest_220 (by decide) rfl rfl (by omega) (by omega) (fun c8 => ?_) (fun c8 => ?_)
            · refine lv_iinc (v := nI (i + 1)) (lv' := [(4, .int (nI (i + 1))), (8, .int (nI 7)), (2, .long (lfo (fun d j => mi d (mOf (up2 N 5 0 0) R u i j)) (lfo (mDt (up2 N 5 0 0) R u) (lfo (fun d j => mi d (mAll (up2 N 5 0 0) T R u j)) 2081 8) i) 7)), (7, .int (nI 7)), (6, .ref (q1)), (0, .ref (b 5))]) hx hb dX1_digest_246 hl (k := 4) rfl (ninc i) (by decide) rfl (fun ls hl => ?_)
              refine lv_goto (tgt := 118) hx hb dX1_digest_249 (by decide) ?_
              exact ih H locs (hB) hS ls (lv_sub hl [0, 2, 5] rfl)
            · exfalso; omega
          · intro j hj jh ls hl
            refine lv_iload hx hb dX1_digest_216 (lv_at hl 0 rfl) ?_
            refine lv_iload hx hb dX1_digest_218 (lv_at hl 2 rfl) ?_
            refine jge (i := j) (j := 7) (tgt := 246) hC dX1_digest_220 (by decide) rfl rfl (by omega) (by omega) (fun c9 => ?_) (fun c9 => ?_)
            · exfalso; omega
            · refine lv_aload hx hb dX1_digest_223 (lv_at hl 3 rfl) ?_
              refine lv_iload hx hb dX1_digest_225 (lv_at hl 0 rfl) ?_
              refine ldA (j) hC hR (by decide) rfl (by omega) rfl dX1_digest_227 ?_
              refine lv_istore (lv' := [(9, .int (mOf (up2 N 5 0 0) R u i j)), (8, .int (nI j)), (2, .long (lfo (fun d j => mi d (mOf (up2 N 5 0 0) R u i j)) (lfo (mDt (up2 N 5 0 0) R u) (lfo (fun d j => mi d (mAll (up2 N 5 0 0) T R u j)) 2081 8) i) j)), (7, .int (nI 7)), (6, .ref (q1)), (4, .int (nI i)), (0, .ref (b 5))]) hx hb dX1_digest_228 hl (by decide) rfl (fun ls hl => ?_)
              refine lv_lload_n hx hb dX1_digest_230 rfl (lv_at hl 2 rfl) ?_
              refine lv_ldc2 hx hb hC.2.2.2.1 (v := 31) (hC.2.2.2.2 _ (List.mem_of_getElem? (i := 557) (by decide +kernel))) dX1_digest_231 ?_
              refine lv_lmul hx hb dX1_digest_234 ?_
              refine lv_iload hx hb dX1_digest_235 (lv_at hl 0 rfl) ?_
              refine lv_i2l (v := (mOf (up2 N 5 0 0) R u i j).toInt64) hx hb dX1_digest_237 rfl ?_
              refine lv_ladd hx hb dX1_digest_238 ?_
              refine lv_lstore_n (lv' := [(2, .long (((lfo (fun d j => mi d (mOf (up2 N 5 0 0) R u i j)) (lfo (mDt (up2 N 5 0 0) R u) (lfo (fun d j => mi d (mAll (up2 N 5 0 0) T R u j)) 2081 8) i) j) * 31) + ((mOf (up2 N 5 0 0) R u i j).toInt64))), (9, .int (mOf (up2 N 5 0 0) R u i j)), (8, .int (nI j)), (7, .int (nI 7)), (6, .ref (q1)), (4, .int (nI i)), (0, .ref (b 5))]) hx hb dX1_digest_239 rfl hl (by decide) rfl (fun ls hl => ?_)
              refine lv_iinc (v := nI (j + 1)) (lv' := [(8, .int (nI (j + 1))), (2, .long (((lfo (fun d j => mi d (mOf (up2 N 5 0 0) R u i j)) (lfo (mDt (up2 N 5 0 0) R u) (lfo (fun d j => mi d (mAll (up2 N 5 0 0) T R u j)) 2081 8) i) j) * 31) + ((mOf (up2 N 5 0 0) R u i j).toInt64))), (9, .int (mOf (up2 N 5 0 0) R u i j)), (7, .int (nI 7)), (6, .ref (q1)), (4, .int (nI i)), (0, .ref (b 5))]) hx hb dX1_digest_240 hl (k := 2) rfl (ninc j) (by decide) rfl (fun ls hl => ?_)
              refine lv_goto (tgt := 216) hx hb dX1_digest_243 (by decide) ?_
              exact jh ls (lv_sub hl [0, 1, 3, 4, 5, 6] rfl)
    · exfalso; omega
  · intro i hi ih ls hl
    refine lv_iload hx hb dX1_digest_85 (lv_at hl 0 rfl) ?_
    refine lv_iload hx hb dX1_digest_87 (lv_at hl 2 rfl) ?_
    refine jge (i := i) (j := 8) (tgt := 115) hC dX1_digest_89 (by decide) rfl rfl (by omega) (by omega) (fun c10 => ?_) (fun c10 => ?_)
    · exfalso; omega
    · refine lv_aload hx hb dX1_digest_92 (lv_at hl 3 rfl) ?_
      refine lv_iload hx hb dX1_digest_94 (lv_at hl 0 rfl) ?_
      refine ldA (i) hC hR (by decide) rfl (by omega) rfl dX1_digest_96 ?_
      refine lv_istore (lv' := [(7, .int (mAll (up2 N 5 0 0) T R u i)), (6, .int (nI i)), (2, .long (lfo (fun d j => mi d (mAll (up2 N 5 0 0) T R u j)) 2081 i)), (5, .int (nI 8)), (4, .ref (q1)), (0, .ref (b 5))]) hx hb dX1_digest_97 hl (by decide) rfl (fun ls hl => ?_)
      refine lv_lload_n hx hb dX1_digest_99 rfl (lv_at hl 2 rfl) ?_
      refine lv_ldc2 hx hb hC.2.2.2.1 (v := 31) (hC.2.2.2.2 _ (List.mem_of_getElem? (i := 557) (by decide +kernel))) dX1_digest_100 ?_
      refine lv_lmul hx hb dX1_digest_103 ?_
      refine lv_iload hx hb dX1_digest_104 (lv_at hl 0 rfl) ?_
      refine lv_i2l (v := (mAll (up2 N 5 0 0) T R u i).toInt64) hx hb dX1_digest_106 rfl ?_
      refine lv_ladd hx hb dX1_digest_107 ?_
      refine lv_lstore_n (lv' := [(2, .long (((lfo (fun d j => mi d (mAll (up2 N 5 0 0) T R u j)) 2081 i) * 31) + ((mAll (up2 N 5 0 0) T R u i).toInt64))), (7, .int (mAll (up2 N 5 0 0) T R u i)), (6, .int (nI i)), (5, .int (nI 8)), (4, .ref (q1)), (0, .ref (b 5))]) hx hb dX1_digest_108 rfl hl (by decide) rfl (fun ls hl => ?_)
      refine lv_iinc (v := nI (i + 1)) (lv' := [(6, .int (nI (i + 1))), (2, .long (((lfo (fun d j => mi d (mAll (up2 N 5 0 0) T R u j)) 2081 i) * 31) + ((mAll (up2 N 5 0 0) T R u i).toInt64))), (7, .int (mAll (up2 N 5 0 0) T R u i)), (5, .int (nI 8)), (4, .ref (q1)), (0, .ref (b 5))]) hx hb dX1_digest_109 hl (k := 2) rfl (ninc i) (by decide) rfl (fun ls hl => ?_)
      refine lv_goto (tgt := 85) hx hb dX1_digest_112 (by decide) ?_
      exact ih ls (lv_sub hl [0, 1, 3, 4, 5] rfl)

/-! ===== Sim.with, Sim.addTrader, new Sim() ===== -/
def bA (b : Nat → Nat) (k0 q : Nat) : Nat → Nat := fun k => if k = k0 then q else b k
theorem bA_at {b : Nat → Nat} {k q : Nat} : bA b k q k = q := if_pos rfl
theorem bA_ne {b : Nat → Nat} {k k0 q : Nat} (h : k ≠ k0) : bA b k0 q k = b k := if_neg h
theorem bA_inj {b : Nat → Nat} {K k0 q : Nat} (h : ∀ i j : Nat, i < K → j < K → b i = b j → i = j) (hq : ∀ k, k < K → b k ≠ q) : ∀ i j : Nat, i < K → j < K → bA b k0 q i = bA b k0 q j → i = j := by
  intro i j hi hj e
  by_cases e1 : i = k0
  · by_cases e2 : j = k0
    · omega
    · rw [e1, bA_at, bA_ne e2] at e
      exact absurd e.symm (hq j hj)
  · by_cases e2 : j = k0
    · rw [e2, bA_at, bA_ne e1] at e
      exact absurd e (hq i hi)
    · rw [bA_ne e1, bA_ne e2] at e
      exact h i j hi hj e
theorem bA_ext {b : Nat → Nat} {K q : Nat} (h : ∀ i j : Nat, i < K → j < K → b i = b j → i = j) (hq : ∀ k, k < K → b k ≠ q) : ∀ i j : Nat, i < K + 1 → j < K + 1 → bA b K q i = bA b K q j → i = j := by
  intro i j hi hj e
  by_cases e1 : i = K
  · by_cases e2 : j = K
    · omega
    · rw [e1, bA_at, bA_ne e2] at e
      exact absurd e.symm (hq j (by omega))
  · by_cases e2 : j = K
    · rw [e2, bA_at, bA_ne e1] at e
      exact absurd e (hq i (by omega))
    · rw [bA_ne e1, bA_ne e2] at e
      exact h i j (by omega) (by omega) e
def WiW (D : va_G) (cI cQ : ClassId) (tw : Nat) (g : Nat → Nat) (T sz : Nat) (U : State) (H : Heap) : Prop := va_K D vwCl (tyB cI cQ) U ∧ va_AOA .int U ∧ H.size = sz ∧ va_at D vwCl (tw, eQ cQ T (fun i => if i < T then some (g i) else none)) H ∧ ∀ i : Nat, i ≤ T → ∃ (n : Nat) (F : Nat → Int32), va_at D vwCl (g i, eI cI n F) H
def WoW (D : va_G) (cQ : ClassId) (g : Nat → Nat) (T sz : Nat) (_ : State) (H : Heap) : Prop := va_at D vwCl (sz, eQ cQ (T + 1) (fun i => if i < T + 1 then some (g i) else none)) H
theorem mov_Wi {D : va_G} {cI cQ : ClassId} {tw : Nat} {g : Nat → Nat} {T sz : Nat} : Mov (WiW D cI cQ tw g T sz) := fun _ _ _ hvm h => ⟨va_K.moved hvm h.1, AOA_mv hvm h.2.1, h.2.2⟩
theorem mov_Wo {D : va_G} {cQ : ClassId} {g : Nat → Nat} {T sz : Nat} : Mov (WoW D cQ g T sz) := fun _ _ _ _ h => h
theorem up_g {g : Nat → Nat} (i : Nat) : va_up (fun j => if j < i then some (g j) else none) i (some (g i)) = fun j => if j < i + 1 then some (g j) else none := by
  funext j
  unfold va_up
  dsimp only
  by_cases e : j = i
  · rw [if_pos e, if_pos (by omega), e]
  · rw [if_neg e]
    by_cases h : j < i
    · rw [if_pos h, if_pos (by omega)]
    · rw [if_neg h, if_neg (by omega)]
set_option maxHeartbeats 4000000 in
set_option maxRecDepth 100000 in
theorem c_X1_with (l : Launch) (D : va_G) (cI cQ : ClassId) (tw : Nat) (g : Nat → Nat) (T sz : Nat) (hT8 : T < 8) : Wr l yX1_with cX1_with 4 (some (.array (.array .int))) ({ frames := 0, cells := 1, slots := 9, locals := 0 } : Room) (WiW D cI cQ tw g T sz) (WoW D cQ g T sz) (fun q => sz ≤ q) [.ref tw, .ref (g T)] (some (.ref sz)) 1 9 := by
  refine Wr.of (by decide) (Nat.le_of_ble_eq_true rfl) ?_
  intro p e s m args below meth c ls hC hr hlocks hW hS hl
  obtain ⟨hK, hAO, hsz, hT, hG⟩ := hW
  subst hsz
  have hx := hC.1
  have hb := hC.2.1
  have hl : lv_has ls 4 [(0, .ref tw), (1, .ref (g T))] := hl
  have hTw : GW D cI cQ 1 (fun _ => tw) (fun _ => eQ cQ T (fun i => if i < T then some (g i) else none)) s s.heap := GW.one hK hT
  have htw : tw < s.heap.size := va_at.lt hT
  refine lv_aload_n hx hb dX1_with_0 rfl (lv_at hl 0 rfl) ?_
  refine lqG (b := fun _ => tw) (k := 0) hC hTw (by decide) rfl dX1_with_1 ?_
  refine lv_iconst (v := 1) hx hb dX1_with_2 (by decide) ?_
  refine xadd (v := nI (T + 1)) hC dX1_with_3 (nadd (i := T) (j := 1) rfl rfl) ?_
  refine nqG (T + 1) hC hK hAO (List.mem_of_getElem? (i := 37) (by decide +kernel)) rfl (by omega) hS (Nat.le_of_ble_eq_true rfl) (by show 0 + (T + 1) ≤ 9; omega) dX1_with_4 (fun H hG1 hS hz hf => ?_)
  refine lv_astore_n (lv' := [(2, .ref (s.heap.size)), (0, .ref tw), (1, .ref (g T))]) hx hb dX1_with_7 rfl hl (by decide) rfl (fun ls hl => ?_)
  refine lv_iconst (v := 0) hx hb dX1_with_8 (by decide) ?_
  refine lv_istore_n (lv' := [(3, .int 0), (2, .ref (s.heap.size)), (0, .ref tw), (1, .ref (g T))]) hx hb dX1_with_9 rfl hl (by decide) rfl (fun ls hl => ?_)
  have hold : ∀ q : Nat, q < s.heap.size → H[q]? = s.heap[q]? := hf
  refine loopU (P := fun i => ∀ (H : Heap) (locs : List Loc), GW D cI cQ 1 (fun _ => s.heap.size) (fun _ => eQ cQ (T + 1) (fun j => if j < i then some (g j) else none)) s H → (∀ q : Nat, q < s.heap.size → H[q]? = s.heap[q]?) → va_S (fun q => s.heap.size ≤ q) s.heap H locs → ∀ ls : Array Slot, lv_has ls 4 [(3, .int (nI i)), (2, .ref (s.heap.size)), (0, .ref tw), (1, .ref (g T))] → W p l e ({ frames := 0, cells := 1, slots := 9, locals := 0 } : Room) s m args below meth c H locs (0 + 1) (0 + (T + 1)) (MQ below (qW (some (.ref s.heap.size)) (WoW D cQ g T s.heap.size) (fun q => s.heap.size ≤ q)) args s 1 9 (fun q => s.heap.size ≤ q)) (F0 m 10 ls [])) T ?_ ?_ 0 (by omega) H [] (hG1.cg (fun _ _ => congrArg (eQ cQ (T + 1)) (funext fun j => (if_neg (Nat.not_lt_zero j)).symm))) hold hS ls (lv_sub hl [0, 1, 2, 3] rfl)
  · intro H locs hG1 hold hS ls hl
    have hTw := hTw.kept (H1 := H) (fun _ _ => hold _ htw)
    refine lv_iload_n hx hb dX1_with_10 rfl (lv_at hl 0 rfl) ?_
    refine lv_aload_n hx hb dX1_with_11 rfl (lv_at hl 2 rfl) ?_
    refine lqG (b := fun _ => tw) (k := 0) hC hTw (by decide) rfl dX1_with_12 ?_
    refine jge (i := T) (j := T) (tgt := 28) hC dX1_with_13 (by decide) rfl rfl (by omega) (by omega) (fun c1 => ?_) (fun c1 => ?_)
    · refine lv_aload_n hx hb dX1_with_28 rfl (lv_at hl 1 rfl) ?_
      refine lv_aload_n hx hb dX1_with_29 rfl (lv_at hl 2 rfl) ?_
      refine lqG (b := fun _ => tw) (k := 0) hC hTw (by decide) rfl dX1_with_30 ?_
      refine lv_aload_n hx hb dX1_with_31 rfl (lv_at hl 3 rfl) ?_
      obtain ⟨n2, F2, hv⟩ := hG T (Nat.le_refl T)
      refine saG (b := fun _ => s.heap.size) (k := 0) T hC hG1 hAO (by decide) rfl rfl (by omega) (by omega) (va_at.kept hv (hold _ (va_at.lt hv))) hS (Nat.le_refl _) dX1_with_32 (fun H1 locs1 h1 h2 h3 h4 => ?_)
      refine lv_aload_n hx hb dX1_with_33 rfl (lv_at hl 1 rfl) ?_
      refine W.widen (k := 1) (n := 9) (by omega) (by omega) ?_
      have h5 := h1.2.1 0 (by decide)
      rw [eU_self, up_g] at h5
      exact W.aret (v := .ref s.heap.size) hx hb hr (Or.inr ⟨_, rfl⟩) (Or.inr ⟨_, rfl⟩) (fun t ht hW1 => ⟨rfl, by rw [ht]; exact h5, h2.F ht⟩) h2.2.2 dX1_with_34 hlocks
    · exfalso; omega
  · intro i hi ih H locs hG1 hold hS ls hl
    have hTw := hTw.kept (H1 := H) (fun _ _ => hold _ htw)
    refine lv_iload_n hx hb dX1_with_10 rfl (lv_at hl 0 rfl) ?_
    refine lv_aload_n hx hb dX1_with_11 rfl (lv_at hl 2 rfl) ?_
    refine lqG (b := fun _ => tw) (k := 0) hC hTw (by decide) rfl dX1_with_12 ?_
    refine jge (i := i) (j := T) (tgt := 28) hC dX1_with_13 (by decide) rfl rfl (by omega) (by omega) (fun c1 => ?_) (fun c1 => ?_)
    · exfalso; omega
    · refine lv_aload_n hx hb dX1_with_16 rfl (lv_at hl 1 rfl) ?_
      refine lv_iload_n hx hb dX1_with_17 rfl (lv_at hl 0 rfl) ?_
      refine lv_aload_n hx hb dX1_with_18 rfl (lv_at hl 2 rfl) ?_
      refine lv_iload_n hx hb dX1_with_19 rfl (lv_at hl 0 rfl) ?_
      refine aaG (b := fun _ => tw) (k := 0) i hC hTw (by decide) rfl rfl hi (by omega) (if_pos hi) dX1_with_20 ?_
      obtain ⟨n2, F2, hv⟩ := hG i (by omega)
      refine saG (b := fun _ => s.heap.size) (k := 0) i hC hG1 hAO (by decide) rfl rfl (by omega) (by omega) (va_at.kept hv (hold _ (va_at.lt hv))) hS (Nat.le_refl _) dX1_with_21 (fun H1 locs1 h1 h2 h3 h4 => ?_)
      refine lv_iinc (v := nI (i + 1)) (lv' := [(3, .int (nI (i + 1))), (2, .ref (s.heap.size)), (0, .ref tw), (1, .ref (g T))]) hx hb dX1_with_22 hl (k := 0) rfl (ninc i) (by decide) rfl (fun ls hl => ?_)
      refine lv_goto (tgt := 10) hx hb dX1_with_25 (by decide) ?_
      exact ih H1 locs1 (h1.cg (fun k hk => by rw [show k = 0 by omega, eU_self, up_g])) (fun q hq => (h4 q (Nat.ne_of_lt hq)).trans (hold q hq)) h2 ls hl
/-- one trader more: the purses anew -/
def nAd (N : bS) (R : Nat) : bS := fun k => if k = 5 then upd (fpre (N 5) R) R 100 else N k
theorem nAd_ne {N : bS} {R k : Nat} (h : k ≠ 5) : nAd N R k = N k := if_neg h
theorem sE_ad {cI cQ : ClassId} {b : Nat → Nat} {N : bS} {T R q : Nat} : ∀ k : Nat, k ≠ 2 → k ≠ 0 → sE cI cQ b N T R k = sE cI cQ (bA b 2 q) (nAd N R) T (R + 1) k
  | 0, _, h => absurd rfl h
  | 1, _, _ => by
    show eQ cQ T _ = eQ cQ T _
    refine congrArg (eQ cQ T) (funext fun i => ?_)
    rw [bA_ne (by omega)]
  | 2, h, _ => absurd rfl h
  | 3, _, _ => by
    show eQ cQ 6 _ = eQ cQ 6 _
    refine congrArg (eQ cQ 6) (funext fun i => ?_)
    rw [bA_ne (by omega)]
  | k + 4, _, _ => by
    show (if k < 6 then eI cI 8 (N (7 + k)) else eI cI 5 (N (14 + k))) = if k < 6 then eI cI 8 (nAd N R (7 + k)) else eI cI 5 (nAd N R (14 + k))
    rw [nAd_ne (by omega), nAd_ne (by omega)]
theorem SW.adT {D : va_G} {cI cQ : ClassId} {b : Nat → Nat} {N : bS} {T R q : Nat} {s : State} {H H1 : Heap} (hW : PW D cI cQ b T R q (R + 1) (upd (fpre (N 5) R) R 100) N s H) (h1 : GW D cI cQ (10 + T) b (eU (sE cI cQ b N T R) 0 (.inr (1, [.int (N 6 0), .ref (b 1), .ref q, .ref (b 3)]))) s H1) (h4 : ∀ z : Nat, z ≠ b 0 → H1[z]? = H[z]?) : SW D cI cQ (bA b 2 q) (nAd N R) T (R + 1) s H1 := by
  refine ⟨⟨hW.1.1.1, fun k hk => ?_, bA_inj hW.1.1.2.2 hW.2.2⟩, hW.1.2⟩
  by_cases e : k = 2
  · subst e
    exact (hW.2.1.kept (fun _ _ => h4 _ (fun z => hW.2.2 0 (by omega) z.symm))).2.1 0 (by decide)
  · have h5 := h1.2.1 k hk
    rw [bA_ne e]
    by_cases e0 : k = 0
    · subst e0
      rw [eU_self] at h5
      exact h5
    · rw [eU_ne _ _ e0] at h5
      rw [← sE_ad k e e0]
      exact h5
set_option maxHeartbeats 4000000 in
set_option maxRecDepth 100000 in
theorem c_X1_addTrader (l : Launch) (D : va_G) (cI cQ : ClassId) (b : Nat → Nat) (N : bS) {T R : Nat} (hT8 : T ≤ 8) (hR6 : R ≤ 6)  {sz : Nat} (hR5 : R < 6) : Wr l yX1_addTrader cX1_addTrader 3 none ({ frames := 0, cells := 1, slots := 6, locals := 0 } : Room) (fun U Hx => Hx.size = sz ∧ SW D cI cQ b N T R U Hx) (SW D cI cQ (bA b 2 sz) (nAd N R) T (R + 1)) (fun q => inG (10 + T) b q ∨ sz ≤ q) [.ref (b 0)] none 1 6 := by
  refine Wr.of (by decide) (Nat.le_of_ble_eq_true rfl) ?_
  intro p e s m args below meth c ls hC hr hlocks hN hS hl
  obtain ⟨hsz, hN⟩ := hN
  have hx := hC.1
  have hb := hC.2.1
  have hA : ∀ q, inG (10 + T) b q → (fun q => inG (10 + T) b q ∨ sz ≤ q) q := fun _ h => Or.inl h
  have hA1 : ∀ q, s.heap.size ≤ q → (fun q => inG (10 + T) b q ∨ sz ≤ q) q := fun q h => Or.inr (hsz ▸ h)
  have hl : lv_has ls 3 [(0, .ref (b 0))] := hl
  refine lv_aload_n hx hb dX1_addTrader_0 rfl (lv_at hl 0 rfl) ?_
  refine gX1_purses hC hN dX1_addTrader_1 ?_
  refine nS_purses hC hN dX1_addTrader_4 ?_
  refine lv_iconst (v := 1) hx hb dX1_addTrader_5 (by decide) ?_
  refine xadd (v := nI (R + 1)) hC dX1_addTrader_6 (nadd (i := R) (j := 1) rfl rfl) ?_
  refine nwG (R + 1) hC hN.1.1 rfl (by omega) hS (Nat.le_of_ble_eq_true rfl) (by show _ ≤ 6; omega) dX1_addTrader_7 (fun H hG hS hz hf => ?_)
  have hW : PW D cI cQ b T R s.heap.size (R + 1) (fpre (N 5) 0) N s H := ⟨hN.kept (fun k hk => hf _ (hN.1.lt k hk)), by rw [← fpre_0]; exact hG, fun k hk => Nat.ne_of_lt (hN.1.lt k hk)⟩
  have hN := hW.1
  refine lv_astore_n (lv' := [(1, .ref (s.heap.size)), (0, .ref (b 0))]) hx hb dX1_addTrader_9 rfl hl (by decide) rfl (fun ls hl => ?_)
  refine lv_iconst (v := 0) hx hb dX1_addTrader_10 (by decide) ?_
  refine lv_istore_n (lv' := [(2, .int (0)), (1, .ref (s.heap.size)), (0, .ref (b 0))]) hx hb dX1_addTrader_11 rfl hl (by decide) rfl (fun ls hl => ?_)
  refine loopU (P := fun i => ∀ (H : Heap) (locs : List Loc), PW D cI cQ b T R s.heap.size (R + 1) (fpre (N 5) i) N s H → va_S (fun q => inG (10 + T) b q ∨ sz ≤ q) s.heap H locs → ∀ ls : Array Slot, lv_has ls 3 [(2, .int (nI i)), (0, .ref (b 0)), (1, .ref (s.heap.size))] → W p l e ({ frames := 0, cells := 1, slots := 6, locals := 0 } : Room) s m args below meth c H locs (0 + 1) (0 + (R + 1)) (MQ below (qW none (SW D cI cQ (bA b 2 sz) (nAd N R) T (R + 1)) (fun q => inG (10 + T) b q ∨ sz ≤ q)) args s 1 6 (fun q => inG (10 + T) b q ∨ sz ≤ q)) (F0 m 12 ls [])) (R) ?_ ?_ 0 (by omega) H [] hW hS ls (by first | exact lv_sub hl [0, 2, 1] rfl | (simpa using lv_sub hl [0, 2, 1] rfl))
  · intro H locs hW hS ls hl
    have hN := hW.1
    refine lv_iload_n hx hb dX1_addTrader_12 rfl (lv_at hl 0 rfl) ?_
    refine lv_aload_n hx hb dX1_addTrader_13 rfl (lv_at hl 1 rfl) ?_
    refine gX1_purses hC hN dX1_addTrader_14 ?_
    refine nS_purses hC hN dX1_addTrader_17 ?_
    refine jge (i := R) (j := R) (tgt := 36) hC dX1_addTrader_18 (by decide) rfl rfl (by omega) (by omega) (fun c1 => ?_) (fun c1 => ?_)
    · refine lv_aload_n hx hb dX1_addTrader_36 rfl (lv_at hl 2 rfl) ?_
      refine lv_aload_n hx hb dX1_addTrader_37 rfl (lv_at hl 1 rfl) ?_
      refine gX1_purses hC hN dX1_addTrader_38 ?_
      refine nS_purses hC hN dX1_addTrader_41 ?_
      refine lv_bipush (v := 100) hx hb dX1_addTrader_42 (by decide) ?_
      refine stP (R) hC hW (by omega) rfl (by omega) hS (hA1 _ (Nat.le_refl _)) dX1_addTrader_44 (fun H locs hW hS => ?_)
      have hN := hW.1
      refine lv_aload_n hx hb dX1_addTrader_45 rfl (lv_at hl 1 rfl) ?_
      refine lv_aload_n hx hb dX1_addTrader_46 rfl (lv_at hl 2 rfl) ?_
      refine ptG (k := 0) (g := 2) (w := .ref s.heap.size) (ty := .array .int) hC hN.1 (by omega) rfl hS (hA _ ⟨0, by omega, rfl⟩) (by decide) (List.mem_of_getElem? (i := 39) (by decide +kernel)) rfl (fun _ h9 => h9) (by decide +kernel) rfl rfl (Nat.le_of_ble_eq_true rfl) dX1_addTrader_47 (fun H1 locs1 h1 h2 h3 h4 => ?_)
      refine W.widen (k := 1) (n := 6) (by omega) (by omega) ?_
      exact wr_v hC hr hlocks mov_S (hsz ▸ SW.adT hW h1 h4) h2 dX1_addTrader_50
    · exfalso; omega
  · intro i hi ih H locs hW hS ls hl
    have hN := hW.1
    refine lv_iload_n hx hb dX1_addTrader_12 rfl (lv_at hl 0 rfl) ?_
    refine lv_aload_n hx hb dX1_addTrader_13 rfl (lv_at hl 1 rfl) ?_
    refine gX1_purses hC hN dX1_addTrader_14 ?_
    refine nS_purses hC hN dX1_addTrader_17 ?_
    refine jge (i := i) (j := R) (tgt := 36) hC dX1_addTrader_18 (by decide) rfl rfl (by omega) (by omega) (fun c2 => ?_) (fun c2 => ?_)
    · exfalso; omega
    · refine lv_aload_n hx hb dX1_addTrader_21 rfl (lv_at hl 2 rfl) ?_
      refine lv_iload_n hx hb dX1_addTrader_22 rfl (lv_at hl 0 rfl) ?_
      refine lv_aload_n hx hb dX1_addTrader_23 rfl (lv_at hl 1 rfl) ?_
      refine gX1_purses hC hN dX1_addTrader_24 ?_
      refine lv_iload_n hx hb dX1_addTrader_27 rfl (lv_at hl 0 rfl) ?_
      refine lS_pur (i) hC hN rfl (by omega) (by omega) rfl dX1_addTrader_28 ?_
      refine stP (i) hC hW (by omega) rfl (by omega) hS (hA1 _ (Nat.le_refl _)) dX1_addTrader_29 (fun H locs hW hS => ?_)
      have hN := hW.1
      refine lv_iinc (v := nI (i + 1)) (lv' := [(2, .int (nI (i + 1))), (0, .ref (b 0)), (1, .ref (s.heap.size))]) hx hb dX1_addTrader_30 hl (k := 0) rfl (ninc i) (by decide) rfl (fun ls hl => ?_)
      refine lv_goto (tgt := 12) hx hb dX1_addTrader_33 (by decide) ?_
      exact ih H locs (by rw [← fpre_up]; exact hW) hS ls (lv_sub hl [0, 1, 2] rfl)

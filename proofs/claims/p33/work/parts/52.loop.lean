/-! ===== the law's arrays, its loop ===== -/
theorem inner_0 (c : ClassId) (n : Nat) : Jvm.Free.Multi.innerC c n (defaultValue .int) = vp_cell c (n, .inl (fun _ => 0)) := by
  show ({ cls := c, slots := Array.replicate n (.int 0), vm := .none } : Cell) = arrV c n (fun _ => .int 0)
  rw [arrV_new]
theorem rng_get {e : va_E} {q : Nat × va_E} {r : Nat → Nat} {m i : Nat} (hi : i < m) : (([] ++ [q]) ++ ((List.range m).map r).map (fun x => (x, e)))[1 + i]? = some (r i, e) := by
  rw [Nat.add_comm 1 i]
  show (q :: ((List.range m).map r).map (fun x => (x, e)))[i + 1]? = _
  rw [List.getElem?_cons_succ]
  simp [hi]
section MNG
variable {p : Program} {l : Launch} {e : Env} {R : Room} {s : State} {m : MethodId} {args : Array Value} {below : List Frame} {meth : Method} {c : Code} {H : Heap} {locs : List Loc} {cells slots : Nat} {Q : State → Prop}
variable {cc : ByteArray} {pc nL : Nat} {ls : Array Slot} {rest : List Value} {D : va_G} {cI cQ : ClassId} {own : String}
theorem mnG (n k : Nat) {index : Nat} (hC : CallFix p m c cc nL s args wsL_law own) (hK : va_K D vwCl (tyB cI cQ) s) (hAO : va_AOA .int s) (hcl : Cond.classLink own index "[[I" ∈ wsL_law) (hn : n ≤ 71) (hk : k ≤ 71) (hlocs : ∀ q ∈ locs, s.heap.size ≤ q.base) (hcells : cells + (1 + k) ≤ R.cells) (hslots : slots + (k + k * n) ≤ R.slots) (hdg : decode cc pc = .ok (.multianewarray index 2, 4))
    (kk : ∀ (q : Nat) (r : Nat → Nat) (H1 : Heap), H.size ≤ q → (∀ i, i < k → H.size ≤ r i) → (∀ i, i < k → r i ≠ q) → (∀ i j, i < k → j < k → r i = r j → i = j) → va_at D vwCl (q, eQ cQ k (fun i => if i < k then some (r i) else none)) H1 → (∀ i, i < k → va_at D vwCl (r i, eI cI n (fun _ => 0)) H1) → H.size ≤ H1.size → (∀ z : Nat, z < H.size → H1[z]? = H[z]?) → W p l e R s m args below meth c H1 [] (cells + 1 + k) (slots + k + k * n) Q (F0 m (pc + 4) ls (.ref q :: rest))) : W p l e R s m args below meth c H locs cells slots Q (F0 m pc ls (.int (nI n) :: .int (nI k) :: rest)) := by
  refine va_forget hlocs ?_
  refine va_mna (A := fun q => H.size ≤ q) (H0 := H) (X := []) (L := []) (f := fun _ => .inl (cI, n, .inl (fun _ => 0))) (ty := .int) hC.1 hC.2.1 hC.2.2.2.1 (hC.2.2.2.2 _ hcl) hAO (hC.2.2.2.2 _ (List.mem_of_getElem? (i := 3) (by decide +kernel))) (cy := cI) (va_nm_int (hK.2 0 (cI, .int) rfl).2) hK (fun k q h => by simp [va_pl] at h) ⟨fun i j p q h => by simp [va_pl] at h, fun k q h => by simp [va_pl] at h⟩ va_S.rf (fun _ h => h) (N' := k) (K' := n) (z := (n, .inl (fun _ => 0))) (nI_pos (by omega)) (nI_pos (by omega)) (nI_clamp (by omega)) (nI_clamp (by omega)) (by omega) (by show n * 4 ≤ _; omega) (by omega) (by decide) (by decide) hcells hslots (fun c => inner_0 c n) hdg (fun q r cA H1 hri hrL hK1 hP hD hS => ?_)
  rw [pl_const] at hP hD
  have ec : cQ = cA := Option.some.inj ((hK.2 1 (cQ, .array .int) rfl).2.symm.trans (hK1.2 2 (cA, .array .int) rfl).2)
  subst ec
  have h0 : ∀ i, i < k → r i ≠ q := fun i hi z => by
    have h1 := hD.1 (1 + i) 0 _ _ (rng_get hi) rfl z
    omega
  refine kk q r H1 (hD.2 0 _ rfl) (fun i hi => hD.2 (1 + i) _ (rng_get hi)) h0 hri (hP 0 _ rfl) (fun i hi => hP (1 + i) _ (rng_get hi)) hS.1 (fun z hz => hS.2.1 z hz (Nat.not_le.mpr hz))
end MNG
def xof (q0 q1 q2 q3 q4 q5 : Nat) (r : Nat → Nat) : Nat → Nat
  | 0 => q0
  | 1 => q1
  | 2 => q2
  | 3 => q3
  | 4 => q4
  | 5 => q5
  | k + 6 => r k
theorem xof_6 {q0 q1 q2 q3 q4 q5 : Nat} {r : Nat → Nat} {k : Nat} : xof q0 q1 q2 q3 q4 q5 r (6 + k) = r k := by rw [Nat.add_comm 6 k]; rfl
theorem XW_of {D : va_G} {cI cQ : ClassId} {q0 q1 q2 q3 q4 q5 n k : Nat} {r : Nat → Nat} {s : State} {H : Heap} (hK : va_K D vwCl (tyB cI cQ) s) (h0 : va_at D vwCl (q0, eI cI n (fun _ => 0)) H) (h1 : va_at D vwCl (q1, eI cI n (fun _ => 0)) H) (h2 : va_at D vwCl (q2, eI cI n (fun _ => 0)) H) (h3 : va_at D vwCl (q3, eI cI n (fun _ => 0)) H) (h4 : va_at D vwCl (q4, eI cI n (fun _ => 0)) H) (h5 : va_at D vwCl (q5, eQ cQ k (fun i => if i < k then some (r i) else none)) H) (h6 : ∀ i, i < k → va_at D vwCl (r i, eI cI n (fun _ => 0)) H) (n01 : q0 < q1) (n12 : q1 < q2) (n23 : q2 < q3) (n34 : q3 < q4) (n45 : q4 < q5) (n46 : ∀ i, i < k → q4 < r i) (n56 : ∀ i, i < k → r i ≠ q5) (n66 : ∀ i j, i < k → j < k → r i = r j → i = j) : XW D cI cQ (xof q0 q1 q2 q3 q4 q5 r) (fun _ _ => 0) n k s H := by
  refine ⟨hK, fun j hj => ?_, fun i j hi hj hij => ?_⟩
  · match j, hj with
    | 0, _ => exact h0
    | 1, _ => exact h1
    | 2, _ => exact h2
    | 3, _ => exact h3
    | 4, _ => exact h4
    | 5, _ =>
      have e9 : (eQ cQ k (fun i => if i < k then some (r i) else none) : va_E) = xE cI cQ (xof q0 q1 q2 q3 q4 q5 r) (fun _ _ => 0) n k 5 := by
        rw [xE_5]
        exact congrArg (eQ cQ k) (funext fun i => by rw [xof_6])
      rw [← e9]
      exact h5
    | j + 6, hj => exact h6 j (by omega)
  · have key : ∀ i j : Nat, i < 6 + k → j < 6 + k → i < j → xof q0 q1 q2 q3 q4 q5 r i ≠ xof q0 q1 q2 q3 q4 q5 r j := by
      intro i j hi hj hlt
      have low : ∀ i, i < 5 → xof q0 q1 q2 q3 q4 q5 r i ≤ q4 := fun i hi => by
        match i, hi with
        | 0, _ => show q0 ≤ q4; omega
        | 1, _ => show q1 ≤ q4; omega
        | 2, _ => show q2 ≤ q4; omega
        | 3, _ => show q3 ≤ q4; omega
        | 4, _ => exact Nat.le_refl _
        | i + 5, hi => exact absurd hi (by omega)
      have mono : ∀ i j, i < 5 → j < 5 → i < j → xof q0 q1 q2 q3 q4 q5 r i < xof q0 q1 q2 q3 q4 q5 r j := fun i j hi hj hlt => by
        match i, j, hi, hj, hlt with
        | 0, 1, _, _, _ => exact n01
        | 0, 2, _, _, _ => show q0 < q2; omega
        | 0, 3, _, _, _ => show q0 < q3; omega
        | 0, 4, _, _, _ => show q0 < q4; omega
        | 1, 2, _, _, _ => exact n12
        | 1, 3, _, _, _ => show q1 < q3; omega
        | 1, 4, _, _, _ => show q1 < q4; omega
        | 2, 3, _, _, _ => exact n23
        | 2, 4, _, _, _ => show q2 < q4; omega
        | 3, 4, _, _, _ => exact n34
        | i + 5, _, hi, _, _ => exact absurd hi (by omega)
        | _, j + 5, _, hj, _ => exact absurd hj (by omega)
        | 0, 0, _, _, h => exact absurd h (by omega)
        | 1, 0, _, _, h => exact absurd h (by omega)
        | 1, 1, _, _, h => exact absurd h (by omega)
        | 2, 0, _, _, h => exact absurd h (by omega)
        | 2, 1, _, _, h => exact absurd h (by omega)
        | 2, 2, _, _, h => exact absurd h (by omega)
        | 3, 0, _, _, h => exact absurd h (by omega)
        | 3, 1, _, _, h => exact absurd h (by omega)
        | 3, 2, _, _, h => exact absurd h (by omega)
        | 3, 3, _, _, h => exact absurd h (by omega)
        | 4, 0, _, _, h => exact absurd h (by omega)
        | 4, 1, _, _, h => exact absurd h (by omega)
        | 4, 2, _, _, h => exact absurd h (by omega)
        | 4, 3, _, _, h => exact absurd h (by omega)
        | 4, 4, _, _, h => exact absurd h (by omega)
      by_cases c5 : j < 5
      · exact Nat.ne_of_lt (mono i j (by omega) c5 hlt)
      by_cases ci : i < 5
      · have h9 := low i ci
        by_cases cj : j = 5
        · rw [cj]
          show _ ≠ q5
          omega
        · rw [show j = 6 + (j - 6) by omega, xof_6]
          have := n46 (j - 6) (by omega)
          omega
      · by_cases ci5 : i = 5
        · rw [ci5, show j = 6 + (j - 6) by omega, xof_6]
          exact (n56 (j - 6) (by omega)).symm
        · rw [show i = 6 + (i - 6) by omega, show j = 6 + (j - 6) by omega, xof_6, xof_6]
          exact fun z => by have := n66 (i - 6) (j - 6) (by omega) (by omega) z; omega
    rcases Nat.lt_trichotomy i j with z | z | z
    · exact absurd hij (key i j hi hj z)
    · exact z
    · exact absurd hij.symm (key j i hj hi z)
set_option maxHeartbeats 8000000 in
set_option maxRecDepth 100000 in
theorem law_loop {p : Program} {l : Launch} {e : Env} {s : State} {m : MethodId} {args : Array Value} {below : List Frame} {meth : Method} {c : Code} {Q : State → Prop} {bs L : Nat} {xs : Nat → Int32} {D : va_G} {cI cQ : ClassId} {a : Nat → Nat} {o : Nat} (hC : CallFix p m c cL_law 25 s args wsL_law RL) (hL : L ≤ 260) (hX : va_X bs L xs s s.heap) (hbl : bs < s.heap.size) (haA : ∀ i : Nat, i < 14 → s.heap.size ≤ a i) (fin : ∀ (b : Nat → Nat) (S N : bS) (T R sec : Nat) (H : Heap) (locs : List Loc) (cells slots : Nat) (ls : Array Slot), b 0 = o → BW D cI cQ a S s H → SW D cI cQ b N T R s H → Je S N T R sec → va_S (fun q => s.heap.size ≤ q) s.heap H locs → cells ≤ room_1.cells → slots ≤ room_1.slots → lv_has ls 25 [(0, .ref bs), (1, .ref (a 13)), (2, .ref o)] → W p l e room_1 s m args below meth c H locs cells slots Q (F0 m 937 ls [])) : ∀ (k tm : Nat), tm + k = 36 → ∀ (b : Nat → Nat) (S N : bS) (T R sec : Nat) (H : Heap) (locs : List Loc) (cells slots : Nat) (ls : Array Slot), b 0 = o → (∀ j : Nat, j < 10 + T → s.heap.size ≤ b j) → 1 ≤ T → sec ≤ 3300 + 61 * tm → BW D cI cQ a S s H → SW D cI cQ b N T R s H → (∀ i j : Nat, i < 14 → j < 10 + T → a i ≠ b j) → Je S N T R sec → va_S (fun q => s.heap.size ≤ q) s.heap H locs → cells + 80 * k ≤ room_1.cells → slots + 600 * k ≤ room_1.slots → lv_has ls 25 [(3, .int (nI tm)), (0, .ref bs), (1, .ref (a 13)), (2, .ref o)] → W p l e room_1 s m args below meth c H locs cells slots Q (F0 m 22 ls []) := by
  have hx := hC.1
  have hb := hC.2.1
  intro k
  induction k with
  | zero =>
    intro tm htm b S N T R sec H locs cells slots ls hb0 hbA hT1 hsec hB hN hds hJe hS hc1 hc2 hl
    refine lv_iload_n hx hb dL_law_22 rfl (lv_at hl 0 rfl) ?_
    refine lv_bipush (v := 36) hx hb dL_law_23 (by decide) ?_
    refine jge (i := tm) (j := 36) (tgt := 937) hC dL_law_25 (by decide) rfl rfl (by omega) (by omega) (fun c1 => ?_) (fun c1 => ?_)
    · exact fin b S N T R sec H locs cells slots ls hb0 hB hN hJe hS (by omega) (by omega) (lv_sub hl [1, 2, 3] rfl)
    · exfalso; omega
  | succ k ih =>
    intro tm htm b S N T R sec H locs cells slots ls hb0 hbA hT1 hsec hB hN hds hJe hS hc1 hc2 hl
    refine lv_iload_n hx hb dL_law_22 rfl (lv_at hl 0 rfl) ?_
    refine lv_bipush (v := 36) hx hb dL_law_23 (by decide) ?_
    refine jge (i := tm) (j := 36) (tgt := 937) hC dL_law_25 (by decide) rfl rfl (by omega) (by omega) (fun c1 => ?_) (fun c1 => ?_)
    · exfalso; omega
    have hXH : va_X bs L xs s H := hX.kept (hS.2.1 bs hbl (Nat.not_le.mpr hbl))
    refine lv_aload_n hx hb dL_law_28 rfl (lv_at hl 1 rfl) ?_
    refine lv_iload_n hx hb dL_law_29 rfl (lv_at hl 0 rfl) ?_
    refine lv_bipush (v := 16) hx hb dL_law_30 (by decide) ?_
    refine xrem (v := nI (tm % 16)) hC dL_law_32 (by decide) (pk_rem (a := tm) (d := 16) (by omega) (by omega) (by omega)) ?_
    refine kL_L_cell hC (c_L_cell l (k := tm % 16) hL (by omega)) (fun _ _ _ hvm h => h.moved hvm) hXH rfl ⟨rfl, rfl⟩ ⟨Nat.le_of_ble_eq_true rfl, Nat.le_of_ble_eq_true rfl⟩ ⟨by omega, by omega⟩ hl.1 rfl (Nat.le_of_ble_eq_true rfl) dL_law_33 ?_
    refine lv_iload_n hx hb dL_law_36 rfl (lv_at hl 0 rfl) ?_
    refine lv_bipush (v := 16) hx hb dL_law_37 (by decide) ?_
    refine lv_idiv hx hb dL_law_39 (by decide) ?_
    refine lv_iconst (v := 3) hx hb dL_law_40 (by decide) ?_
    refine lv_imul hx hb dL_law_41 ?_
    refine lv_ishr hx hb dL_law_42 ?_
    refine lv_sipush (v := 643) hx hb dL_law_43 (by decide) ?_
    refine lv_iload_n hx hb dL_law_46 rfl (lv_at hl 0 rfl) ?_
    refine lv_imul hx hb dL_law_47 ?_
    refine lv_iadd hx hb dL_law_48 ?_
    generalize clv xs L (tm % 16) >>> (nI tm / 16 * 3 &&& 31) + 643 * nI tm = x9
    refine lv_istore (lv' := [(4, .int x9), (3, .int (nI tm)), (0, .ref bs), (1, .ref (a 13)), (2, .ref o)]) hx hb dL_law_49 hl (by decide) rfl (fun ls hl => ?_)
    refine lv_aload_n hx hb dL_law_51 rfl (lv_at hl 3 rfl) ?_
    refine lv_aload_n hx hb dL_law_52 rfl (lv_at hl 4 rfl) ?_
    refine lv_iload hx hb dL_law_53 (lv_at hl 0 rfl) ?_
    rw [← hb0]
    refine kSq (index := 68) hC (c_L_act l D cI cQ a b S N (T := T) (R := R) (sec := sec) (sz := H.size) x9 (by omega)) (blind mov_Js) (fun U hU hW1 => ⟨by rw [hU], by rw [hU]; exact mov_J s U H hW1.alike ⟨hB, hN, hds, hJe⟩⟩) (good_S (List.mem_of_getElem? (i := 50) (by decide +kernel)) (List.mem_of_getElem? (i := 51) (by decide +kernel)) (List.mem_of_getElem? (i := 29) (by decide +kernel)) (List.mem_of_getElem? (i := 52) (by decide +kernel))) rfl rfl ⟨by decide +kernel, by decide +kernel, by show _ = some 3; decide +kernel⟩ ⟨Nat.le_of_ble_eq_true rfl, Nat.le_of_ble_eq_true rfl⟩ ⟨by omega, by omega⟩ hl.1 rfl (Nat.le_of_ble_eq_true rfl) dL_law_55 (fun v st t L1 hst hvm hq hL1 => ?_)
    obtain ⟨hv, hPA, hF⟩ := hq
    cases hv
    have hszH := hS.1
    have hS := S_more hS hst hF (fun q z => z.elim (fun ⟨i, hi, e⟩ => by rw [e]; exact haA i hi) (fun z => z.elim (fun ⟨j, hj, e⟩ => by rw [e]; exact hbA j hj) (fun z => Nat.le_trans hszH z))) hL1
    obtain ⟨b', S', N', T', R', sec', g1, g2, g3, g4, hB, hN, hds, hJe⟩ := mov_PA t s _ hvm.symm hPA
    have hbA : ∀ j : Nat, j < 10 + T' → s.heap.size ≤ b' j := fun j hj => (g2 j hj).elim (fun ⟨i, hi, e⟩ => by rw [e]; exact hbA i hi) (fun z => Nat.le_trans hszH z)
    generalize hHt : t.heap = H4 at hS hB hN ⊢
    refine W.eq (g2 := F0 m 58 ls [.int 1]) rfl ?_
    refine lv_if_ne (tgt := 63) hx hb dL_law_58 (by decide) (fun c2 => ?_) (fun c2 => ?_)
    · obtain ⟨w9, p9, bt9, u9, q9, hJ⟩ := id hJe
      have hT8 := hJ.T8
      have hR6 := hJ.R6
      have hRT : R' * T' ≤ 6 * 8 := Nat.mul_le_mul hR6 hT8
      have hK := hB.1
      refine lv_aload_n hx hb dL_law_63 rfl (lv_at hl 3 rfl) ?_
      refine kL_X0_towers hC (c_X0_towers l D cI cQ a S' hJ.1) hB rfl ⟨rfl, rfl⟩ ⟨Nat.le_of_ble_eq_true rfl, Nat.le_of_ble_eq_true rfl⟩ ⟨by omega, by omega⟩ hl.1 rfl (Nat.le_of_ble_eq_true rfl) dL_law_64 ?_
      refine lv_istore (lv' := [(5, .int (nI T')), (3, .int (nI tm)), (0, .ref bs), (1, .ref (a 13)), (2, .ref o)]) hx hb dL_law_67 (lv_sub hl [1, 2, 3, 4] rfl) (by decide) rfl (fun ls hl => ?_)
      refine lv_aload_n hx hb dL_law_69 rfl (lv_at hl 3 rfl) ?_
      refine kL_X0_traders hC (c_X0_traders l D cI cQ a S' hJ.1) hB rfl ⟨rfl, rfl⟩ ⟨Nat.le_of_ble_eq_true rfl, Nat.le_of_ble_eq_true rfl⟩ ⟨by omega, by omega⟩ hl.1 rfl (Nat.le_of_ble_eq_true rfl) dL_law_70 ?_
      refine lv_istore (lv' := [(6, .int (nI R')), (5, .int (nI T')), (3, .int (nI tm)), (0, .ref bs), (1, .ref (a 13)), (2, .ref o)]) hx hb dL_law_73 hl (by decide) rfl (fun ls hl => ?_)
      refine lv_iload hx hb dL_law_75 (lv_at hl 1 rfl) ?_
      refine nwG T' hC hK rfl (by omega) hS (by omega) (by omega) dL_law_77 (fun Ha ga hS za fa => ?_)
      refine lv_astore (lv' := [(7, .ref H4.size), (6, .int (nI R')), (5, .int (nI T')), (3, .int (nI tm)), (0, .ref bs), (1, .ref (a 13)), (2, .ref o)]) hx hb dL_law_79 hl (by decide) rfl (fun ls hl => ?_)
      refine lv_iload hx hb dL_law_81 (lv_at hl 2 rfl) ?_
      refine nwG T' hC hK rfl (by omega) hS (by omega) (by omega) dL_law_83 (fun Hb gb hS zb fb => ?_)
      refine lv_astore (lv' := [(8, .ref Ha.size), (7, .ref H4.size), (6, .int (nI R')), (5, .int (nI T')), (3, .int (nI tm)), (0, .ref bs), (1, .ref (a 13)), (2, .ref o)]) hx hb dL_law_85 hl (by decide) rfl (fun ls hl => ?_)
      refine lv_iload hx hb dL_law_87 (lv_at hl 3 rfl) ?_
      refine nwG T' hC hK rfl (by omega) hS (by omega) (by omega) dL_law_89 (fun Hc gc hS zc fc => ?_)
      refine lv_astore (lv' := [(9, .ref Hb.size), (8, .ref Ha.size), (7, .ref H4.size), (6, .int (nI R')), (5, .int (nI T')), (3, .int (nI tm)), (0, .ref bs), (1, .ref (a 13)), (2, .ref o)]) hx hb dL_law_91 hl (by decide) rfl (fun ls hl => ?_)
      refine lv_iload hx hb dL_law_93 (lv_at hl 4 rfl) ?_
      refine nwG T' hC hK rfl (by omega) hS (by omega) (by omega) dL_law_95 (fun Hd gd hS zd fd => ?_)
      refine lv_astore (lv' := [(10, .ref Hc.size), (9, .ref Hb.size), (8, .ref Ha.size), (7, .ref H4.size), (6, .int (nI R')), (5, .int (nI T')), (3, .int (nI tm)), (0, .ref bs), (1, .ref (a 13)), (2, .ref o)]) hx hb dL_law_97 hl (by decide) rfl (fun ls hl => ?_)
      refine lv_iload hx hb dL_law_99 (lv_at hl 5 rfl) ?_
      refine nwG T' hC hK rfl (by omega) hS (by omega) (by omega) dL_law_101 (fun He ge hS ze fe => ?_)
      refine lv_astore (lv' := [(11, .ref Hd.size), (10, .ref Hc.size), (9, .ref Hb.size), (8, .ref Ha.size), (7, .ref H4.size), (6, .int (nI R')), (5, .int (nI T')), (3, .int (nI tm)), (0, .ref bs), (1, .ref (a 13)), (2, .ref o)]) hx hb dL_law_103 hl (by decide) rfl (fun ls hl => ?_)
      refine lv_iload hx hb dL_law_105 (lv_at hl 5 rfl) ?_
      refine lv_iload hx hb dL_law_107 (lv_at hl 6 rfl) ?_
      have hS4 : s.heap.size ≤ H4.size := Nat.le_trans hszH (by rw [← hHt]; exact Nat.le_trans (Nat.le_of_eq (congrArg Array.size hst.symm)) hF.1)
      refine mnG T' R' hC hK hN.2 (List.mem_of_getElem? (i := 4) (by decide +kernel)) (by omega) (by omega) (fun q hq => hS.2.2 q hq) (by omega) (by omega) dL_law_109 (fun qm r Hf hq5 hr5 hrq hri ha5 ha6 zf ff => ?_)
      have f4 : ∀ z : Nat, z < H4.size → Hf[z]? = H4[z]? := fun z hz => by rw [ff z (by omega), fe z (by omega), fd z (by omega), fc z (by omega), fb z (by omega), fa z (by omega)]
      have hBl : ∀ k, k < 14 → a k < H4.size := hB.lt
      have hNl : ∀ k, k < 10 + T' → b' k < H4.size := hN.1.lt
      have hB := hB.kept (H1 := Hf) (fun k hk => f4 _ (hBl k hk))
      have hN := hN.kept (H1 := Hf) (fun k hk => f4 _ (hNl k hk))
      have k0 := va_at.kept (ga.2.1 0 (by decide)) (show Hf[H4.size]? = Ha[H4.size]? from by rw [ff _ (by omega), fe _ (by omega), fd _ (by omega), fc _ (by omega), fb _ (by omega)])
      have k1 := va_at.kept (gb.2.1 0 (by decide)) (show Hf[Ha.size]? = Hb[Ha.size]? from by rw [ff _ (by omega), fe _ (by omega), fd _ (by omega), fc _ (by omega)])
      have k2 := va_at.kept (gc.2.1 0 (by decide)) (show Hf[Hb.size]? = Hc[Hb.size]? from by rw [ff _ (by omega), fe _ (by omega), fd _ (by omega)])
      have k3 := va_at.kept (gd.2.1 0 (by decide)) (show Hf[Hc.size]? = Hd[Hc.size]? from by rw [ff _ (by omega), fe _ (by omega)])
      have k4 := va_at.kept (ge.2.1 0 (by decide)) (show Hf[Hd.size]? = He[Hd.size]? from by rw [ff _ (by omega)])
      have hV := XW_of (q0 := H4.size) (q1 := Ha.size) (q2 := Hb.size) (q3 := Hc.size) (q4 := Hd.size) (q5 := qm) (r := r) (n := T') (k := R') hK k0 k1 k2 k3 k4 ha5 ha6 (by omega) (by omega) (by omega) (by omega) (by omega) (fun i hi => by have := hr5 i hi; omega) hrq hri
      have hxg : ∀ j, j < 6 + R' → H4.size ≤ xof H4.size Ha.size Hb.size Hc.size Hd.size qm r j := by
        intro j hj
        match j, hj with
        | 0, _ => show H4.size ≤ H4.size; omega
        | 1, _ => show H4.size ≤ Ha.size; omega
        | 2, _ => show H4.size ≤ Hb.size; omega
        | 3, _ => show H4.size ≤ Hc.size; omega
        | 4, _ => show H4.size ≤ Hd.size; omega
        | 5, _ => show H4.size ≤ qm; omega
        | j + 6, hj => show H4.size ≤ r j; have := hr5 j (by omega); omega
      have hd : Dsx a b' (xof H4.size Ha.size Hb.size Hc.size Hd.size qm r) T' R' s.heap.size := ⟨hds, fun i j hi hj z => by have := hBl i hi; have := hxg j hj; omega, fun i j hi hj z => by have := hNl i hi; have := hxg j hj; omega, haA, hbA, fun j hj => Nat.le_trans hS4 (hxg j hj)⟩
      have hS : va_S (fun q => s.heap.size ≤ q) s.heap Hf [] := by have h9 := S_up hS zf ff; exact ⟨h9.1, h9.2.1, fun q h => by simp at h⟩
      have g1o : b' 0 = o := g1.trans hb0
      rw [← g1o] at hl
      refine W.widen (k := cells + 79) (n := slots + 592) (by omega) (by omega) ?_
      refine lv_astore (lv' := [(12, .ref qm), (11, .ref Hd.size), (10, .ref Hc.size), (9, .ref Hb.size), (8, .ref Ha.size), (7, .ref H4.size), (6, .int (nI R')), (5, .int (nI T')), (3, .int (nI tm)), (0, .ref bs), (1, .ref (a 13)), (2, .ref (b' 0))]) hx hb dL_law_113 hl (by decide) rfl (fun ls hl => ?_)
      refine lv_iconst (v := 0) hx hb dL_law_115 (by decide) ?_
      refine lv_istore (lv' := [(13, .int 0), (12, .ref qm), (11, .ref Hd.size), (10, .ref Hc.size), (9, .ref Hb.size), (8, .ref Ha.size), (7, .ref H4.size), (6, .int (nI R')), (5, .int (nI T')), (3, .int (nI tm)), (0, .ref bs), (1, .ref (a 13)), (2, .ref (b' 0))]) hx hb dL_law_116 hl (by decide) rfl (fun ls hl => ?_)
      refine lv_bipush (v := 99) hx hb dL_law_118 (by decide) ?_
      refine lv_istore (lv' := [(14, .int 99), (13, .int 0), (12, .ref qm), (11, .ref Hd.size), (10, .ref Hc.size), (9, .ref Hb.size), (8, .ref Ha.size), (7, .ref H4.size), (6, .int (nI R')), (5, .int (nI T')), (3, .int (nI tm)), (0, .ref bs), (1, .ref (a 13)), (2, .ref (b' 0))]) hx hb dL_law_120 hl (by decide) rfl (fun ls hl => ?_)
      refine lv_iconst (v := 0) hx hb dL_law_122 (by decide) ?_
      refine lv_istore (lv' := [(15, .int 0), (14, .int 99), (13, .int 0), (12, .ref qm), (11, .ref Hd.size), (10, .ref Hc.size), (9, .ref Hb.size), (8, .ref Ha.size), (7, .ref H4.size), (6, .int (nI R')), (5, .int (nI T')), (3, .int (nI tm)), (0, .ref bs), (1, .ref (a 13)), (2, .ref (b' 0))]) hx hb dL_law_123 hl (by decide) rfl (fun ls hl => ?_)
      refine lv_iconst (v := 0) hx hb dL_law_125 (by decide) ?_
      refine lv_istore (lv' := [(16, .int 0), (15, .int 0), (14, .int 99), (13, .int 0), (12, .ref qm), (11, .ref Hd.size), (10, .ref Hc.size), (9, .ref Hb.size), (8, .ref Ha.size), (7, .ref H4.size), (6, .int (nI R')), (5, .int (nI T')), (3, .int (nI tm)), (0, .ref bs), (1, .ref (a 13)), (2, .ref (b' 0))]) hx hb dL_law_126 hl (by decide) rfl (fun ls hl => ?_)
      refine lv_iconst (v := 0) hx hb dL_law_128 (by decide) ?_
      refine lv_istore (lv' := [(17, .int 0), (16, .int 0), (15, .int 0), (14, .int 99), (13, .int 0), (12, .ref qm), (11, .ref Hd.size), (10, .ref Hc.size), (9, .ref Hb.size), (8, .ref Ha.size), (7, .ref H4.size), (6, .int (nI R')), (5, .int (nI T')), (3, .int (nI tm)), (0, .ref bs), (1, .ref (a 13)), (2, .ref (b' 0))]) hx hb dL_law_129 hl (by decide) rfl (fun ls hl => ?_)
      refine lv_iconst (v := 0) hx hb dL_law_131 (by decide) ?_
      refine lv_istore (lv' := [(18, .int 0), (17, .int 0), (16, .int 0), (15, .int 0), (14, .int 99), (13, .int 0), (12, .ref qm), (11, .ref Hd.size), (10, .ref Hc.size), (9, .ref Hb.size), (8, .ref Ha.size), (7, .ref H4.size), (6, .int (nI R')), (5, .int (nI T')), (3, .int (nI tm)), (0, .ref bs), (1, .ref (a 13)), (2, .ref (b' 0))]) hx hb dL_law_132 hl (by decide) rfl (fun ls hl => ?_)
      refine lv_iconst (v := 0) hx hb dL_law_134 (by decide) ?_
      refine lv_istore (lv' := [(19, .int 0), (18, .int 0), (17, .int 0), (16, .int 0), (15, .int 0), (14, .int 99), (13, .int 0), (12, .ref qm), (11, .ref Hd.size), (10, .ref Hc.size), (9, .ref Hb.size), (8, .ref Ha.size), (7, .ref H4.size), (6, .int (nI R')), (5, .int (nI T')), (3, .int (nI tm)), (0, .ref bs), (1, .ref (a 13)), (2, .ref (b' 0))]) hx hb dL_law_135 hl (by decide) rfl (fun ls hl => ?_)
      refine law_s1 (x := (xof H4.size Ha.size Hb.size Hc.size Hd.size qm r)) (b := b') (tm := tm) hC hJ hd (by omega) (by omega) ⟨hB, hN, _, hV, fun j hj => absurd hj (Nat.not_lt_zero j)⟩ hS (lv_sub hl [0, 6, 5, 4, 3, 2, 1, 16, 17, 18, 15, 14, 13, 12, 11, 10, 9, 8, 7] rfl) (fun H5 locs5 ls hW hS hl => ?_)
      refine law_s2 (x := (xof H4.size Ha.size Hb.size Hc.size Hd.size qm r)) (b := b') (tm := tm) hC hJ hd (by omega) (by omega) hW hS hl (fun H6 locs6 ls hW hS hl => ?_)
      refine law_s3 (x := (xof H4.size Ha.size Hb.size Hc.size Hd.size qm r)) (b := b') (tm := tm) hC hJ hd (by omega) (by omega) g3 hW hS hl (fun H7 locs7 ls hW hS hl => ?_)
      refine law_s4 (x := (xof H4.size Ha.size Hb.size Hc.size Hd.size qm r)) (b := b') (tm := tm) hC hJ hd (by omega) (by omega) hW hS hl (fun H8 locs8 ls hW hS hl => ?_)
      obtain ⟨hB, hN, -⟩ := hW
      rw [g1o] at hl
      refine lv_iinc (v := nI (tm + 1)) (lv' := [(3, .int (nI (tm + 1))), (0, .ref bs), (1, .ref (a 13)), (2, .ref o), (5, .int (nI T')), (6, .int (nI R')), (7, .ref ((xof H4.size Ha.size Hb.size Hc.size Hd.size qm r) 0)), (8, .ref ((xof H4.size Ha.size Hb.size Hc.size Hd.size qm r) 1)), (9, .ref ((xof H4.size Ha.size Hb.size Hc.size Hd.size qm r) 2)), (10, .ref ((xof H4.size Ha.size Hb.size Hc.size Hd.size qm r) 3)), (11, .ref ((xof H4.size Ha.size Hb.size Hc.size Hd.size qm r) 4)), (12, .ref ((xof H4.size Ha.size Hb.size Hc.size Hd.size qm r) 5))]) hx hb dL_law_931 hl (k := 3) rfl (ninc tm) (by decide) rfl (fun ls hl => ?_)
      refine lv_goto (tgt := 22) hx hb dL_law_934 (by decide) ?_
      refine W.widen (k := cells + 80) (n := slots + 600) (by omega) (by omega) ?_
      exact ih (tm + 1) (by omega) b' _ _ T' R' (sec' + 1) H8 locs8 (cells + 80) (slots + 600) ls g1o hbA g3 (by omega) hB hN hds (hJe.go (by omega)) hS (by omega) (by omega) (lv_sub hl [0, 1, 2, 3] rfl)
    · exact absurd c2 (by decide)

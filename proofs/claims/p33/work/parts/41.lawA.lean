/-! ===== the law's own: below, cell; what act leaves ===== -/
def bel (v : Int32) (n : Nat) : Nat := v.toBitVec.toNat % 2 ^ 31 % n
theorem bel_lt {v : Int32} {n : Nat} (h : 1 ≤ n) : bel v n < n := Nat.mod_lt _ h
section LR
variable {p : Program} {l : Launch} {e : Env} {R : Room} {s : State} {m : MethodId} {args : Array Value} {below : List Frame} {meth : Method} {c : Code} {H : Heap} {locs : List Loc} {cells slots : Nat} {Q : State → Prop}
variable {cc : ByteArray} {pc nL : Nat} {ls : Array Slot} {rest : List Value} {own : String}
theorem xrem {x y v : Int32} (hC : CallFix p m c cc nL s args wsL_law own) (hdg : decode cc pc = .ok (.irem, 1)) (hne : ¬ y = 0) (hv : x - x / y * y = v) (k : W p l e R s m args below meth c H locs cells slots Q (F0 m (pc + 1) ls (.int v :: rest))) : W p l e R s m args below meth c H locs cells slots Q (F0 m pc ls (.int y :: .int x :: rest)) := by
  subst hv
  exact lv_irem hC.1 hC.2.1 hdg hne k
end LR
set_option maxRecDepth 100000 in
theorem c_L_below (l : Launch) (v : Int32) {n : Nat} (h1 : 1 ≤ n) (h2 : n < 2 ^ 31) : Rd l yL_below cL_below 2 (some .int) ({ frames := 0, cells := 0, slots := 0, locals := 0 } : Room) (fun _ _ => True) [.int v, .int (nI n)] (.int (nI (bel v n))) := by
  refine Rd.of (by decide) (Nat.le_of_ble_eq_true rfl) ?_
  intro p e s m args below meth c ls hC hr hlocks hB hl
  have hx := hC.1
  have hb := hC.2.1
  have hl : lv_has ls 2 [(0, .int v), (1, .int (nI n))] := hl
  have hlt : v.toBitVec.toNat % 2 ^ 31 < 2 ^ 31 := Nat.mod_lt _ (by decide)
  refine lv_iload_n hx hb dL_below_0 rfl (lv_at hl 0 rfl) ?_
  refine lv_ldc (v := 2147483647) hx hb hC.2.2.2.1 (hC.2.2.2.2 _ (List.mem_of_getElem? (i := 49) (by decide +kernel))) dL_below_1 ?_
  refine lv_iand hx hb dL_below_3 ?_
  rw [pk_and v 31 rfl]
  refine lv_iload_n hx hb dL_below_4 rfl (lv_at hl 1 rfl) ?_
  refine xrem hC dL_below_5 (nI_ne0 h1 h2) (pk_rem hlt h1 h2) ?_
  exact rd_i hC hr hlocks dL_below_6 rfl
def clv (xs : Nat → Int32) (L k : Nat) : Int32 := if k < L then xs k else 790386105 * (nI k + 3)
set_option maxRecDepth 100000 in
theorem c_L_cell (l : Launch) {bs L k : Nat} {xs : Nat → Int32} (hL : L ≤ 260) (hk : k < 2 ^ 30) : Rd l yL_cell cL_cell 2 (some .int) ({ frames := 0, cells := 0, slots := 0, locals := 0 } : Room) (fun U H => va_X bs L xs U H) [.ref bs, .int (nI k)] (.int (clv xs L k)) := by
  refine Rd.of (by decide) (Nat.le_of_ble_eq_true rfl) ?_
  intro p e s m args below meth c ls hC hr hlocks hX hl
  have hx := hC.1
  have hb := hC.2.1
  have hbl : bs < s.heap.size := by
    obtain ⟨scr, h1, -⟩ := hX
    exact (Array.getElem?_eq_some_iff.mp h1).1
  have hl : lv_has ls 2 [(0, .ref bs), (1, .int (nI k))] := hl
  refine lv_iload_n hx hb dL_cell_0 rfl (lv_at hl 1 rfl) ?_
  refine lv_aload_n hx hb dL_cell_1 rfl (lv_at hl 0 rfl) ?_
  refine va_slen (A := fun _ => False) hx hb hX hbl (fun z => z) va_S.rf dL_cell_2 ?_
  refine jge (i := k) (j := L) (tgt := 12) hC dL_cell_3 (by decide) rfl rfl (by omega) (by omega) (fun c1 => ?_) (fun c1 => ?_)
  · refine lv_ldc (v := 790386105) hx hb hC.2.2.2.1 (hC.2.2.2.2 _ (List.mem_of_getElem? (i := 45) (by decide +kernel))) dL_cell_12 ?_
    refine lv_iload_n hx hb dL_cell_14 rfl (lv_at hl 1 rfl) ?_
    refine lv_iconst (v := 3) hx hb dL_cell_15 (by decide) ?_
    refine lv_iadd hx hb dL_cell_16 ?_
    refine lv_imul hx hb dL_cell_17 ?_
    exact rd_i hC hr hlocks dL_cell_18 (by unfold clv; rw [if_neg (by omega)])
  · refine lv_aload_n hx hb dL_cell_6 rfl (lv_at hl 0 rfl) ?_
    refine lv_iload_n hx hb dL_cell_7 rfl (lv_at hl 1 rfl) ?_
    refine va_sld (A := fun _ => False) hx hb hX hbl (fun z => z) va_S.rf (vp_in_nI c1 (by omega)) dL_cell_8 ?_
    refine lv_goto (tgt := 18) hx hb dL_cell_9 (by decide) ?_
    exact rd_i hC hr hlocks dL_cell_18 (by unfold clv; rw [if_pos c1, nI_clamp (by omega)])
/-- the two objects, apart, and what holds between them -/
def JW (D : va_G) (cI cQ : ClassId) (a b : Nat → Nat) (S N : bS) (T R sec : Nat) (U : State) (H : Heap) : Prop := BW D cI cQ a S U H ∧ SW D cI cQ b N T R U H ∧ (∀ i j : Nat, i < 14 → j < 10 + T → a i ≠ b j) ∧ Je S N T R sec
theorem mov_J {D : va_G} {cI cQ : ClassId} {a b : Nat → Nat} {S N : bS} {T R sec : Nat} : Mov (JW D cI cQ a b S N T R sec) := fun _ _ _ hvm h => ⟨h.1.moved hvm, h.2.1.moved hvm, h.2.2⟩
def PA (D : va_G) (cI cQ : ClassId) (a b : Nat → Nat) (T sec sz : Nat) (U : State) (H : Heap) : Prop := ∃ (b' : Nat → Nat) (S N : bS) (T' R' sec' : Nat), b' 0 = b 0 ∧ (∀ j : Nat, j < 10 + T' → inG (10 + T) b (b' j) ∨ sz ≤ b' j) ∧ 1 ≤ T' ∧ sec' ≤ sec + 60 ∧ JW D cI cQ a b' S N T' R' sec' U H
theorem mov_PA {D : va_G} {cI cQ : ClassId} {a b : Nat → Nat} {T sec sz : Nat} : Mov (PA D cI cQ a b T sec sz) := fun u U H hvm h => by
  obtain ⟨b', S, N, T', R', sec', h1, h2, h3, h4, h5⟩ := h
  exact ⟨b', S, N, T', R', sec', h1, h2, h3, h4, mov_J u U H hvm h5⟩
theorem sE_li {cI cQ : ClassId} {b : Nat → Nat} {N : bS} {T R w q : Nat} {F : Nat → Int32} : ∀ k : Nat, k ≠ 0 → k ≠ 1 → k < 10 + T → sE cI cQ b N T R k = sE cI cQ (bA (bA b 1 w) (10 + T) q) (nLi N T F) (T + 1) R k
  | 0, h, _, _ => absurd rfl h
  | 1, _, h, _ => absurd rfl h
  | 2, _, _, _ => by
    show eI cI R (N 5) = eI cI R (nLi N T F 5)
    rw [nLi_ne (by omega)]
  | 3, _, _, _ => by
    show eQ cQ 6 _ = eQ cQ 6 _
    refine congrArg (eQ cQ 6) (funext fun i => ?_)
    by_cases c : i < 6
    · rw [if_pos c, if_pos c, bA_ne (by omega), bA_ne (by omega)]
    · rw [if_neg c, if_neg c]
  | k + 4, _, _, hk => by
    show (if k < 6 then eI cI 8 (N (7 + k)) else eI cI 5 (N (14 + k))) = if k < 6 then eI cI 8 (nLi N T F (7 + k)) else eI cI 5 (nLi N T F (14 + k))
    by_cases c : k < 6
    · rw [if_pos c, if_pos c, nLi_ne (by omega)]
    · rw [if_neg c, if_neg c, nLi_ne (by omega)]
theorem SW.adW {D : va_G} {cI cQ : ClassId} {b : Nat → Nat} {N : bS} {T R w q : Nat} {F : Nat → Int32} {s : State} {H H1 : Heap} (hN : SW D cI cQ b N T R s H) (h1 : GW D cI cQ (10 + T) b (eU (sE cI cQ b N T R) 0 (.inr (1, [.int (N 6 0), .ref w, .ref (b 2), .ref (b 3)]))) s H1) (hw : va_at D vwCl (w, eQ cQ (T + 1) (fun i => if i < T + 1 then some (if i = T then q else b (10 + i)) else none)) H1) (hq : va_at D vwCl (q, eI cI 5 F) H1) (nw : ∀ k, k < 10 + T → b k ≠ w) (nq : ∀ k, k < 10 + T → b k ≠ q) (nwq : w ≠ q) : SW D cI cQ (bA (bA b 1 w) (10 + T) q) (nLi N T F) (T + 1) R s H1 := by
  refine ⟨⟨hN.1.1, fun k hk => ?_, bA_ext (bA_inj hN.1.2.2 nw) (fun k hk => ?_)⟩, hN.2⟩
  · by_cases e : k = 10 + T
    · rw [e, bA_at, sE_t, nLi_at]
      exact hq
    · by_cases e1 : k = 1
      · subst e1
        rw [bA_ne (by omega), bA_at]
        have e9 : (eQ cQ (T + 1) (fun i => if i < T + 1 then some (if i = T then q else b (10 + i)) else none) : va_E) = sE cI cQ (bA (bA b 1 w) (10 + T) q) (nLi N T F) (T + 1) R 1 := congrArg (eQ cQ (T + 1)) (funext fun i => by
          by_cases c : i = T
          · rw [if_pos c, c, bA_at]
          · rw [if_neg c, bA_ne (by omega), bA_ne (by omega)])
        rw [← e9]
        exact hw
      · have h5 := h1.2.1 k (by omega)
        by_cases e0 : k = 0
        · subst e0
          rw [eU_self] at h5
          rw [bA_ne (by omega), bA_ne (by omega)]
          have e9 : (Sum.inr (1, [.int (N 6 0), .ref w, .ref (b 2), .ref (b 3)]) : va_E) = sE cI cQ (bA (bA b 1 w) (10 + T) q) (nLi N T F) (T + 1) R 0 := by
            show _ = (Sum.inr (1, [.int (nLi N T F 6 0), .ref (bA (bA b 1 w) (10 + T) q 1), .ref (bA (bA b 1 w) (10 + T) q 2), .ref (bA (bA b 1 w) (10 + T) q 3)]) : va_E)
            rw [nLi_ne (by omega), bA_ne (by omega), bA_at, bA_ne (by omega), bA_ne (by omega), bA_ne (by omega), bA_ne (by omega)]
          rw [← e9]
          exact h5
        · rw [eU_ne _ _ e0] at h5
          rw [bA_ne e, bA_ne e1, ← sE_li k e0 e1 (by omega)]
          exact h5
  · by_cases e : k = 1
    · rw [e, bA_at]
      exact nwq
    · rw [bA_ne e]
      exact nq k hk
theorem ds_bA {a b : Nat → Nat} {K k0 q : Nat} (h : ∀ i j : Nat, i < 14 → j < K → a i ≠ b j) (hq : ∀ i : Nat, i < 14 → a i ≠ q) : ∀ i j : Nat, i < 14 → j < K → a i ≠ bA b k0 q j := by
  intro i j hi hj
  by_cases e : j = k0
  · rw [e, bA_at]
    exact hq i hi
  · rw [bA_ne e]
    exact h i j hi hj
theorem ds_ext {a b : Nat → Nat} {K q : Nat} (h : ∀ i j : Nat, i < 14 → j < K → a i ≠ b j) (hq : ∀ i : Nat, i < 14 → a i ≠ q) : ∀ i j : Nat, i < 14 → j < K + 1 → a i ≠ bA b K q j := by
  intro i j hi hj
  by_cases e : j = K
  · rw [e, bA_at]
    exact hq i hi
  · rw [bA_ne e]
    exact h i j hi (by omega)
theorem Je.buy {S N : bS} {T R sec : Nat} (h : Je S N T R sec) {r t k : Nat} (hr : r < R) (ht : t < T) (hk1 : 1 ≤ k) (hk : k ≤ 9) (hc : S (7 + r) t + nI k ≤ 9) : Je (up2 (up2 S 5 r (S 5 r - bPr S R t * nI k)) (7 + r) t (S (7 + r) t + nI k)) (nSl N r t (-(nI k))) T R sec := by
  obtain ⟨w, p, bt, u, q, hJ⟩ := h
  have hT := hJ.T8
  have hR := hJ.R6
  have eh := hJ.held (r := r) (t := t) (by omega) (by omega)
  have hb := (hJ.2.2.1 r t (by omega) (by omega)).2.1
  have ek := nI_toInt (n := k) (by omega)
  have eS := congrArg Int32.toInt eh
  have e9 : (9 : Int32).toInt = 9 := by decide
  have ea : (S (7 + r) t + nI k).toInt = (S (7 + r) t).toInt + k := by rw [eh, tI_add (by rw [ek]; omega) (by rw [ek]; omega), ek]
  have hc1 := Int32.le_iff_toInt_le.mp hc
  rw [ea, e9] at hc1
  refine ⟨w, p, bt, u, q, ?_⟩
  have e1 : nSl N r t (-(nI k)) = up2 (up2 N 5 r (N 5 r + -(nI k) * sPr N t)) (7 + r) t (S (7 + r) t + nI k) := by
    unfold nSl
    rw [eh]
    have e2 : N (7 + r) t - -(nI k) = N (7 + r) t + nI k := by grind
    rw [e2]
  rw [e1]
  exact hJ.sold hr ht (d := -(bPr S R t * nI k)) (by grind) (by rw [hJ.prc ht]; grind) (by rw [ea]; omega)
theorem Je.sell {S N : bS} {T R sec : Nat} (h : Je S N T R sec) {r t k : Nat} (hr : r < R) (ht : t < T) (hk1 : 1 ≤ k) (hk : k ≤ 9) (hc : -9 ≤ S (7 + r) t - nI k) : Je (up2 (up2 S 5 r (S 5 r + bPr S R t * nI k)) (7 + r) t (S (7 + r) t - nI k)) (nSl N r t (nI k)) T R sec := by
  obtain ⟨w, p, bt, u, q, hJ⟩ := h
  have hT := hJ.T8
  have hR := hJ.R6
  have eh := hJ.held (r := r) (t := t) (by omega) (by omega)
  have hb := (hJ.2.2.1 r t (by omega) (by omega)).2.1
  have ek := nI_toInt (n := k) (by omega)
  have eS := congrArg Int32.toInt eh
  have e9 : (-9 : Int32).toInt = -9 := by decide
  have ea : (S (7 + r) t - nI k).toInt = (S (7 + r) t).toInt - k := by rw [eh, tI_sub (by rw [ek]; omega) (by rw [ek]; omega), ek]
  have hc1 := Int32.le_iff_toInt_le.mp hc
  rw [ea, e9] at hc1
  refine ⟨w, p, bt, u, q, ?_⟩
  have e1 : nSl N r t (nI k) = up2 (up2 N 5 r (N 5 r + nI k * sPr N t)) (7 + r) t (S (7 + r) t - nI k) := by
    unfold nSl
    rw [eh]
  rw [e1]
  exact hJ.sold hr ht (d := bPr S R t * nI k) rfl (by rw [hJ.prc ht, Int32.mul_comm]) (by rw [ea]; omega)
theorem Je.addT {S N : bS} {T R sec : Nat} (h : Je S N T R sec) (hR : R < 6) : Je (up2 (up2 S 5 R 100) 6 2 (nI (R + 1))) (nAd N R) T (R + 1) sec := by
  obtain ⟨w, p, bt, u, q, hJ⟩ := h
  exact ⟨w, p, bt, u, q, hJ.addT hR⟩
theorem Je.list {S N : bS} {T R sec : Nat} (h : Je S N T R sec) (hT : T < 8) {w0 p0 b0 : Nat} {F : Nat → Int32} (hw : 1 ≤ w0 ∧ w0 ≤ 9) (hp : 2 ≤ p0 ∧ p0 ≤ 20) (hb : b0 < p0) (f0 : F 0 = nI w0) (f1 : F 1 = nI p0) (f2 : F 2 = nI b0) (f3 : F 3 = 0) (f4 : F 4 = 0) : Je (up2 (up2 (up2 (up2 S 0 T (nI w0)) 1 T (nI p0)) 3 T (if flm (nI b0 - S 6 0) (nI p0) = 0 then nI p0 else flm (nI b0 - S 6 0) (nI p0))) 6 1 (nI (T + 1))) (nLi N T F) (T + 1) R sec := by
  obtain ⟨w, p, bt, u, q, hJ⟩ := h
  obtain ⟨z, z1, z2, z3⟩ := flm_z (b0 := b0) (sec := sec) (p0 := p0) hb hp.1 hp.2 hJ.2.2.2.1.2.2
  rw [hJ.2.2.2.1.1, z1]
  by_cases c : z = 0
  · refine ⟨_, _, _, _, _, hJ.list hT hw hp hb (z := p0) (by rw [if_pos (by rw [c]; rfl)]) ⟨by omega, Nat.le_refl _⟩ ?_ f0 f1 f2 f3 f4⟩
    rw [Nat.add_mod_right]
    rw [c] at z3
    exact z3
  · exact ⟨_, _, _, _, _, hJ.list hT hw hp hb (z := z) (by rw [if_neg (nI_ne0 (by omega) (by omega))]) ⟨by omega, by omega⟩ z3 f0 f1 f2 f3 f4⟩

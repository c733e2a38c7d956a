set_option maxHeartbeats 8000000 in
set_option maxRecDepth 100000 in
theorem c_L_act (l : Launch) (D : va_G) (cI cQ : ClassId) (a b : Nat → Nat) (S N : bS) {T R sec sz : Nat} (x : Int32) (hs : sec ≤ 2 ^ 20) : Wr l yL_act cL_act 11 (some .boolean) ({ frames := 7, cells := 60, slots := 480, locals := 156 } : Room) (fun U Hx => Hx.size = sz ∧ JW D cI cQ a b S N T R sec U Hx) (PA D cI cQ a b T sec sz) (fun q => inB a q ∨ inG (10 + T) b q ∨ sz ≤ q) [.ref (a 13), .ref (b 0), .int x] (some (.int 1)) 60 480 := by
  refine Wr.of (by decide) (Nat.le_of_ble_eq_true rfl) ?_
  intro p e s m args below meth c ls hC hr hlocks hW hS hl
  obtain ⟨hsz, hB, hN, hds, hJe⟩ := hW
  obtain ⟨w9, p9, bt9, u9, q9, hJ⟩ := id hJe
  have hx := hC.1
  have hb := hC.2.1
  have hT8 := hJ.T8
  have hR6 := hJ.R6
  have hP := hJ.hP
  have hAB : ∀ q, inB a q → (fun q => inB a q ∨ inG (10 + T) b q ∨ sz ≤ q) q := fun _ h => Or.inl h
  have hAN : ∀ q, inG (10 + T) b q → (fun q => inB a q ∨ inG (10 + T) b q ∨ sz ≤ q) q := fun _ h => Or.inr (Or.inl h)
  have hA1 : ∀ q, s.heap.size ≤ q → (fun q => inB a q ∨ inG (10 + T) b q ∨ sz ≤ q) q := fun q h => Or.inr (Or.inr (hsz ▸ h))
  have hBl : ∀ k, k < 14 → a k < s.heap.size := hB.lt
  have hNl : ∀ k, k < 10 + T → b k < s.heap.size := hN.1.lt
  have hl : lv_has ls 11 [(0, .ref (a 13)), (1, .ref (b 0)), (2, .int (x))] := hl
  refine lv_aload_n hx hb dL_act_0 rfl (lv_at hl 1 rfl) ?_
  refine gL_towers hC hN dL_act_1 ?_
  refine nS_towers hC hN dL_act_4 ?_
  refine lv_istore_n (lv' := [(3, .int (nI T)), (0, .ref (a 13)), (1, .ref (b 0)), (2, .int (x))]) hx hb dL_act_5 rfl hl (by decide) rfl (fun ls hl => ?_)
  refine lv_aload_n hx hb dL_act_6 rfl (lv_at hl 2 rfl) ?_
  refine gL_purses hC hN dL_act_7 ?_
  refine nS_purses hC hN dL_act_10 ?_
  refine lv_istore (lv' := [(4, .int (nI R)), (3, .int (nI T)), (0, .ref (a 13)), (1, .ref (b 0)), (2, .int (x))]) hx hb dL_act_11 hl (by decide) rfl (fun ls hl => ?_)
  refine lv_iload_n hx hb dL_act_13 rfl (lv_at hl 4 rfl) ?_
  refine lv_bipush (v := 9) hx hb dL_act_14 (by decide) ?_
  refine lv_ishr hx hb dL_act_16 ?_
  refine lv_bipush (v := 18) hx hb dL_act_17 (by decide) ?_
  refine kL_L_below hC (c_L_below l (x >>> (9 &&& 31)) (n := 18) (by omega) (by omega)) mov_T trivial rfl ⟨rfl, rfl⟩ ⟨Nat.le_of_ble_eq_true rfl, Nat.le_of_ble_eq_true rfl⟩ ⟨by show _ ≤ 60; omega, by show _ ≤ 480; omega⟩ hl.1 rfl (Nat.le_of_ble_eq_true rfl) dL_act_19 ?_
  have he1 := bel_lt (v := x >>> (9 &&& 31)) (n := 18) (by omega)
  generalize bel (x >>> (9 &&& 31)) 18 = e1 at he1 ⊢
  refine lv_istore (lv' := [(5, .int (nI e1)), (4, .int (nI R)), (3, .int (nI T)), (0, .ref (a 13)), (1, .ref (b 0)), (2, .int (x))]) hx hb dL_act_22 hl (by decide) rfl (fun ls hl => ?_)
  refine lv_iload_n hx hb dL_act_24 rfl (lv_at hl 2 rfl) ?_
  refine lv_if_eq (tgt := 34) hx hb dL_act_25 (by decide) (fun c1 => ?_) (fun c1 => ?_)
  · refine lv_iload_n hx hb dL_act_34 rfl (lv_at hl 2 rfl) ?_
    refine lv_bipush (v := 8) hx hb dL_act_35 (by decide) ?_
    refine lv_icmp_ne (tgt := 42) hx hb dL_act_37 (by decide) (fun c2 => ?_) (fun c2 => ?_)
    · have hT7 : T < 8 := Nat.lt_of_le_of_ne hT8 (fun z => c2 (by rw [z]; rfl))
      refine lv_iconst (v := 2) hx hb dL_act_42 (by decide) ?_
      refine lv_iload_n hx hb dL_act_43 rfl (lv_at hl 5 rfl) ?_
      refine lv_iconst (v := 3) hx hb dL_act_44 (by decide) ?_
      refine lv_ishr hx hb dL_act_45 ?_
      refine lv_bipush (v := 19) hx hb dL_act_46 (by decide) ?_
      refine kL_L_below hC (c_L_below l (x >>> (3 &&& 31)) (n := 19) (by omega) (by omega)) mov_T trivial rfl ⟨rfl, rfl⟩ ⟨Nat.le_of_ble_eq_true rfl, Nat.le_of_ble_eq_true rfl⟩ ⟨by show _ ≤ 60; omega, by show _ ≤ 480; omega⟩ hl.1 rfl (Nat.le_of_ble_eq_true rfl) dL_act_48 ?_
      have he2 := bel_lt (v := x >>> (3 &&& 31)) (n := 19) (by omega)
      generalize bel (x >>> (3 &&& 31)) 19 = e2 at he2 ⊢
      refine xadd (v := nI (2 + e2)) hC dL_act_51 (nadd (i := 2) (j := e2) rfl rfl) ?_
      refine lv_istore (lv' := [(6, .int (nI (2 + e2))), (5, .int (nI e1)), (4, .int (nI R)), (3, .int (nI T)), (0, .ref (a 13)), (1, .ref (b 0)), (2, .int (x))]) hx hb dL_act_52 hl (by decide) rfl (fun ls hl => ?_)
      refine lv_iconst (v := 5) hx hb dL_act_54 (by decide) ?_
      refine nwG 5 hC hN.1.1 rfl (by omega) hS (by show _ ≤ 60; omega) (by show _ ≤ 480; omega) dL_act_55 (fun H hG hS hz hold => ?_)
      refine lv_dup hx hb dL_act_57 rfl ?_
      refine lv_iconst (v := 0) hx hb dL_act_58 (by decide) ?_
      refine lv_iconst (v := 1) hx hb dL_act_59 (by decide) ?_
      refine lv_iload_n hx hb dL_act_60 rfl (lv_at hl 6 rfl) ?_
      refine lv_iconst (v := 1) hx hb dL_act_61 (by decide) ?_
      refine lv_ishr hx hb dL_act_62 ?_
      refine lv_bipush (v := 9) hx hb dL_act_63 (by decide) ?_
      refine kL_L_below hC (c_L_below l (x >>> (1 &&& 31)) (n := 9) (by omega) (by omega)) mov_T trivial rfl ⟨rfl, rfl⟩ ⟨Nat.le_of_ble_eq_true rfl, Nat.le_of_ble_eq_true rfl⟩ ⟨by show _ ≤ 60; omega, by show _ ≤ 480; omega⟩ hl.1 rfl (Nat.le_of_ble_eq_true rfl) dL_act_65 ?_
      have he3 := bel_lt (v := x >>> (1 &&& 31)) (n := 9) (by omega)
      generalize bel (x >>> (1 &&& 31)) 9 = e3 at he3 ⊢
      refine xadd (v := nI (1 + e3)) hC dL_act_68 (nadd (i := 1) (j := e3) rfl rfl) ?_
      refine stG (b := fun _ => s.heap.size) (k := 0) (E := fun _ => eI cI 5 (fun _ => 0)) 0 hC hG (by decide) rfl rfl (by omega) (by omega) hS (hA1 _ (Nat.le_refl _)) dL_act_69 (fun H locs hG hS hz9 hf => ?_)
      have hG : GW D cI cQ 1 (fun _ => s.heap.size) (fun _ => eI cI 5 (upd (fun _ => 0) 0 (nI (1 + e3)))) s H := hG.cg (fun k hk => by rw [show k = 0 by omega, eU_self])
      have hz : H.size = s.heap.size + 1 := hz9.trans hz
      have hold : ∀ q : Nat, q < s.heap.size → H[q]? = s.heap[q]? := fun q hq => (hf q (Nat.ne_of_lt hq)).trans (hold q hq)
      refine lv_dup hx hb dL_act_70 rfl ?_
      refine lv_iconst (v := 1) hx hb dL_act_71 (by decide) ?_
      refine lv_iload hx hb dL_act_72 (lv_at hl 0 rfl) ?_
      refine stG (b := fun _ => s.heap.size) (k := 0) (E := fun _ => eI cI 5 (upd (fun _ => 0) 0 (nI (1 + e3)))) 1 hC hG (by decide) rfl rfl (by omega) (by omega) hS (hA1 _ (Nat.le_refl _)) dL_act_74 (fun H locs hG hS hz9 hf => ?_)
      have hG : GW D cI cQ 1 (fun _ => s.heap.size) (fun _ => eI cI 5 (upd (upd (fun _ => 0) 0 (nI (1 + e3))) 1 (nI (2 + e2)))) s H := hG.cg (fun k hk => by rw [show k = 0 by omega, eU_self])
      have hz : H.size = s.heap.size + 1 := hz9.trans hz
      have hold : ∀ q : Nat, q < s.heap.size → H[q]? = s.heap[q]? := fun q hq => (hf q (Nat.ne_of_lt hq)).trans (hold q hq)
      refine lv_dup hx hb dL_act_75 rfl ?_
      refine lv_iconst (v := 2) hx hb dL_act_76 (by decide) ?_
      refine lv_iload_n hx hb dL_act_77 rfl (lv_at hl 6 rfl) ?_
      refine lv_bipush (v := 6) hx hb dL_act_78 (by decide) ?_
      refine lv_ishr hx hb dL_act_80 ?_
      refine lv_iload hx hb dL_act_81 (lv_at hl 0 rfl) ?_
      refine kL_L_below hC (c_L_below l (x >>> (6 &&& 31)) (n := 2 + e2) (by omega) (by omega)) mov_T trivial rfl ⟨rfl, rfl⟩ ⟨Nat.le_of_ble_eq_true rfl, Nat.le_of_ble_eq_true rfl⟩ ⟨by show _ ≤ 60; omega, by show _ ≤ 480; omega⟩ hl.1 rfl (Nat.le_of_ble_eq_true rfl) dL_act_83 ?_
      have he4 := bel_lt (v := x >>> (6 &&& 31)) (n := 2 + e2) (by omega)
      generalize bel (x >>> (6 &&& 31)) (2 + e2) = e4 at he4 ⊢
      refine stG (b := fun _ => s.heap.size) (k := 0) (E := fun _ => eI cI 5 (upd (upd (fun _ => 0) 0 (nI (1 + e3))) 1 (nI (2 + e2)))) 2 hC hG (by decide) rfl rfl (by omega) (by omega) hS (hA1 _ (Nat.le_refl _)) dL_act_86 (fun H locs hG hS hz9 hf => ?_)
      have hG : GW D cI cQ 1 (fun _ => s.heap.size) (fun _ => eI cI 5 (upd (upd (upd (fun _ => 0) 0 (nI (1 + e3))) 1 (nI (2 + e2))) 2 (nI e4))) s H := hG.cg (fun k hk => by rw [show k = 0 by omega, eU_self])
      have hz : H.size = s.heap.size + 1 := hz9.trans hz
      have hold : ∀ q : Nat, q < s.heap.size → H[q]? = s.heap[q]? := fun q hq => (hf q (Nat.ne_of_lt hq)).trans (hold q hq)
      refine lv_dup hx hb dL_act_87 rfl ?_
      refine lv_iconst (v := 3) hx hb dL_act_88 (by decide) ?_
      refine lv_iconst (v := 0) hx hb dL_act_89 (by decide) ?_
      refine stG (b := fun _ => s.heap.size) (k := 0) (E := fun _ => eI cI 5 (upd (upd (upd (fun _ => 0) 0 (nI (1 + e3))) 1 (nI (2 + e2))) 2 (nI e4))) 3 hC hG (by decide) rfl rfl (by omega) (by omega) hS (hA1 _ (Nat.le_refl _)) dL_act_90 (fun H locs hG hS hz9 hf => ?_)
      have hG : GW D cI cQ 1 (fun _ => s.heap.size) (fun _ => eI cI 5 (upd (upd (upd (upd (fun _ => 0) 0 (nI (1 + e3))) 1 (nI (2 + e2))) 2 (nI e4)) 3 0)) s H := hG.cg (fun k hk => by rw [show k = 0 by omega, eU_self])
      have hz : H.size = s.heap.size + 1 := hz9.trans hz
      have hold : ∀ q : Nat, q < s.heap.size → H[q]? = s.heap[q]? := fun q hq => (hf q (Nat.ne_of_lt hq)).trans (hold q hq)
      refine lv_dup hx hb dL_act_91 rfl ?_
      refine lv_iconst (v := 4) hx hb dL_act_92 (by decide) ?_
      refine lv_iconst (v := 0) hx hb dL_act_93 (by decide) ?_
      refine stG (b := fun _ => s.heap.size) (k := 0) (E := fun _ => eI cI 5 (upd (upd (upd (upd (fun _ => 0) 0 (nI (1 + e3))) 1 (nI (2 + e2))) 2 (nI e4)) 3 0)) 4 hC hG (by decide) rfl rfl (by omega) (by omega) hS (hA1 _ (Nat.le_refl _)) dL_act_94 (fun H locs hG hS hz9 hf => ?_)
      have hG : GW D cI cQ 1 (fun _ => s.heap.size) (fun _ => eI cI 5 (upd (upd (upd (upd (upd (fun _ => 0) 0 (nI (1 + e3))) 1 (nI (2 + e2))) 2 (nI e4)) 3 0) 4 0)) s H := hG.cg (fun k hk => by rw [show k = 0 by omega, eU_self])
      have hz : H.size = s.heap.size + 1 := hz9.trans hz
      have hold : ∀ q : Nat, q < s.heap.size → H[q]? = s.heap[q]? := fun q hq => (hf q (Nat.ne_of_lt hq)).trans (hold q hq)
      refine lv_astore (lv' := [(7, .ref (s.heap.size)), (6, .int (nI (2 + e2))), (5, .int (nI e1)), (4, .int (nI R)), (3, .int (nI T)), (0, .ref (a 13)), (1, .ref (b 0)), (2, .int (x))]) hx hb dL_act_95 hl (by decide) rfl (fun ls hl => ?_)
      have hB := hB.kept (H1 := H) (fun k hk => hold _ (hB.lt k hk))
      have hN := hN.kept (H1 := H) (fun k hk => hold _ (hN.1.lt k hk))
      refine lv_aload_n hx hb dL_act_97 rfl (lv_at hl 6 rfl) ?_
      refine lv_aload_n hx hb dL_act_98 rfl (lv_at hl 6 rfl) ?_
      refine gL_towers hC hN dL_act_99 ?_
      refine lv_aload hx hb dL_act_102 (lv_at hl 0 rfl) ?_
      have hM := c_X1_with l D cI cQ (b 1) (fun i => if i = T then s.heap.size else b (10 + i)) T H.size hT7
      rw [show (if T = T then s.heap.size else b (10 + T)) = s.heap.size from if_pos rfl] at hM
      refine kSq (index := 25) hC hM (blind mov_Wi) (fun U hU hW1 => ?_) (good_S (List.mem_of_getElem? (i := 55) (by decide +kernel)) (List.mem_of_getElem? (i := 56) (by decide +kernel)) (List.mem_of_getElem? (i := 33) (by decide +kernel)) (List.mem_of_getElem? (i := 57) (by decide +kernel))) rfl rfl ⟨by decide +kernel, by decide +kernel, by show _ = some 2; decide +kernel⟩ ⟨Nat.le_of_ble_eq_true rfl, Nat.le_of_ble_eq_true rfl⟩ ⟨by show _ ≤ 60; omega, by show _ ≤ 480; omega⟩ hl.1 rfl (Nat.le_of_ble_eq_true rfl) dL_act_104 (fun v st t L hst hvm hq hL => ?_)
      · have e9 : U.heap = H := hU
        rw [e9]
        refine ⟨va_K.moved hW1.alike hN.1.1, AOA_mv hW1.alike hN.2, rfl, ?_, fun i hi => ?_⟩
        · have h5 := hN.1.2.1 1 (by omega)
          have e8 : sE cI cQ b N T R 1 = eQ cQ T (fun i => if i < T then some (if i = T then s.heap.size else b (10 + i)) else none) := congrArg (eQ cQ T) (funext fun i => by
              by_cases c : i < T
              · rw [if_pos c, if_pos c, if_neg (by omega)]
              · rw [if_neg c, if_neg c])
          rw [e8] at h5
          exact h5
        · by_cases c : i = T
          · subst c
            exact ⟨5, _, by dsimp only; rw [if_pos rfl]; exact hG.2.1 0 (by decide)⟩
          · refine ⟨5, N (20 + i), ?_⟩
            dsimp only
            rw [if_neg c, ← sE_t (cQ := cQ) (b := b) (N := N) (T := T) (R := R)]
            exact hN.1.2.1 (10 + i) (by omega)
      obtain ⟨hv, hwo, hF⟩ := hq
      cases hv
      have hS := S_more hS hst hF (fun q hq => hA1 q (Nat.le_trans hS.1 hq)) hL
      obtain ⟨hz2, hk2⟩ := hF
      rw [hst] at hz2 hk2
      have hold2 : ∀ q : Nat, q < H.size → t.heap[q]? = H[q]? := fun q hq => hk2 q hq (Nat.not_le.mpr hq)
      have hB := hB.kept (H1 := t.heap) (fun k hk => hold2 _ (hB.lt k hk))
      have hN := hN.kept (H1 := t.heap) (fun k hk => hold2 _ (hN.1.lt k hk))
      have hG := hG.kept (H1 := t.heap) (fun k hk => hold2 _ (by omega))
      have hbl : ∀ k, k < 10 + T → b k < s.heap.size := hNl
      obtain ⟨w1, hw1⟩ : ∃ w1, w1 = H.size := ⟨_, rfl⟩
      unfold WoW at hwo
      rw [← hw1] at hwo ⊢
      generalize hHt : t.heap = H3 at hwo hS hz2 hk2 hold2 hB hN hG ⊢
      refine ptG (k := 0) (g := 1) (w := .ref w1) (ty := .array (.array .int)) hC hN.1 (by omega) rfl hS (hAN _ ⟨0, by omega, rfl⟩) (by decide) (List.mem_of_getElem? (i := 5) (by decide +kernel)) rfl (fun _ h9 => h9) (by decide +kernel) rfl rfl (Nat.le_of_ble_eq_true rfl) dL_act_107 (fun H locs h1 hS hz4 hf4 => ?_)
      have hb0 := hNl 0 (by omega)
      have hB := hB.kept (H1 := H) (fun k hk => hf4 _ (fun z => hds k 0 hk (by omega) z))
      have hG := hG.kept (H1 := H) (fun k hk => hf4 _ (Nat.ne_of_gt hb0))
      have hN : SW D cI cQ (bA (bA b 1 w1) (10 + T) s.heap.size) (nLi N T (upd (upd (upd (upd (upd (fun _ => 0) 0 (nI (1 + e3))) 1 (nI (2 + e2))) 2 (nI e4)) 3 0) 4 0)) (T + 1) R s H := SW.adW hN h1 (va_at.kept hwo (hf4 _ (fun z => by have : w1 = b 0 := z; omega))) (hG.2.1 0 (by decide)) (fun k hk z => by have := hbl k hk; omega) (fun k hk z => by have := hbl k hk; omega) (by omega)
      have hds2 : ∀ i j : Nat, i < 14 → j < 10 + (T + 1) → a i ≠ bA (bA b 1 w1) (10 + T) s.heap.size j := ds_ext (ds_bA hds (fun i hi z => by have := hBl i hi; omega)) (fun i hi z => by have := hBl i hi; omega)
      have hfr : ∀ j : Nat, j < 10 + (T + 1) → inG (10 + T) b (bA (bA b 1 w1) (10 + T) s.heap.size j) ∨ s.heap.size ≤ bA (bA b 1 w1) (10 + T) s.heap.size j := by
        intro j hj
        by_cases e : j = 10 + T
        · rw [e, bA_at]
          exact Or.inr (Nat.le_refl _)
        · rw [bA_ne e]
          by_cases e1 : j = 1
          · rw [e1, bA_at]
            exact Or.inr (by omega)
          · rw [bA_ne e1]
            exact Or.inl ⟨j, by omega, rfl⟩
      refine lv_aload_n hx hb dL_act_110 rfl (lv_at hl 5 rfl) ?_
      refine lv_aload hx hb dL_act_111 (lv_at hl 0 rfl) ?_
      refine lv_iconst (v := 0) hx hb dL_act_113 (by decide) ?_
      refine ldG (b := fun _ => s.heap.size) (k := 0) (v := nI (1 + e3)) 0 hC hG (by decide) rfl rfl (by omega) (by omega) (by simp [upd]) dL_act_114 ?_
      refine lv_iload hx hb dL_act_115 (lv_at hl 1 rfl) ?_
      refine lv_aload hx hb dL_act_117 (lv_at hl 0 rfl) ?_
      refine lv_iconst (v := 2) hx hb dL_act_119 (by decide) ?_
      refine ldG (b := fun _ => s.heap.size) (k := 0) (v := nI e4) 2 hC hG (by decide) rfl rfl (by omega) (by omega) (by simp [upd]) dL_act_120 ?_
      refine kxL_X0_list hC (c_X0_list l D cI cQ a S hJ.1 hT7 (w0 := 1 + e3) (p0 := 2 + e2) (b0 := e4) (by omega) (by omega) (by omega) (by omega) (by omega)) mov_B hB rfl ⟨rfl, rfl⟩ ⟨Nat.le_of_ble_eq_true rfl, Nat.le_of_ble_eq_true rfl⟩ ⟨by show _ ≤ 60; omega, by show _ ≤ 480; omega⟩ hS hAB hl.1 rfl (Nat.le_of_ble_eq_true rfl) dL_act_121 (fun H locs hB hS hz hf => ?_)
      have hN := hN.kept (fun k hk => hf _ (hN.1.lt k hk) (fun ⟨i, hi, e⟩ => hds2 i k hi hk e.symm))
      refine lv_iload_n hx hb dL_act_124 rfl (lv_at hl 4 rfl) ?_
      refine lv_icmp_ne (tgt := 132) hx hb dL_act_125 (by decide) (fun c3 => ?_) (fun c3 => ?_)
      · exfalso; exact c3 rfl
      · refine lv_iconst (v := 1) hx hb dL_act_128 (by decide) ?_
        refine lv_goto (tgt := 133) hx hb dL_act_129 (by decide) ?_
        have hPA : PA D cI cQ a b T sec sz s H := by subst hsz; exact ⟨bA (bA b 1 w1) (10 + T) s.heap.size, _, _, T + 1, R, sec, by rw [bA_ne (by omega), bA_ne (by omega)], hfr, by omega, by omega, hB, hN, hds2, hJe.list hT7 (w0 := 1 + e3) (p0 := 2 + e2) (b0 := e4) (by omega) (by omega) (by omega) (by simp [upd]) (by simp [upd]) (by simp [upd]) (by simp [upd]) (by simp [upd])⟩
        refine W.widen (k := 60) (n := 480) (by omega) (by omega) ?_
        exact wr_z hC hr hlocks mov_PA hPA hS (rfl) dL_act_133 (by rfl)
    · have hT1 : 1 ≤ T := by have e9 := (nI_eq (a := T) (b := 8) (by omega) (by omega)).mp c2; omega
      refine lv_iconst (v := 1) hx hb dL_act_40 (by decide) ?_
      have hPA : PA D cI cQ a b T sec sz s s.heap := by subst hsz; exact ⟨b, S, N, T, R, sec, rfl, fun j hj => Or.inl ⟨j, hj, rfl⟩, hT1, by omega, hB, hN, hds, hJe⟩
      refine W.widen (k := 60) (n := 480) (by omega) (by omega) ?_
      exact wr_z hC hr hlocks mov_PA hPA hS (rfl) dL_act_41 (by rfl)
  · have hT1 : 1 ≤ T := Nat.pos_of_ne_zero (fun z => c1 (by rw [z]; rfl))
    refine lv_iload hx hb dL_act_28 (lv_at hl 0 rfl) ?_
    refine lv_iconst (v := 2) hx hb dL_act_30 (by decide) ?_
    refine jge (i := e1) (j := 2) (tgt := 134) hC dL_act_31 (by decide) rfl rfl (by omega) (by omega) (fun c4 => ?_) (fun c4 => ?_)
    · refine lv_iload hx hb dL_act_134 (lv_at hl 1 rfl) ?_
      refine lv_if_eq (tgt := 145) hx hb dL_act_136 (by decide) (fun c5 => ?_) (fun c5 => ?_)
      · refine lv_iload hx hb dL_act_145 (lv_at hl 1 rfl) ?_
        refine lv_bipush (v := 6) hx hb dL_act_147 (by decide) ?_
        refine lv_icmp_ne (tgt := 154) hx hb dL_act_149 (by decide) (fun c6 => ?_) (fun c6 => ?_)
        · have hR5 : R < 6 := Nat.lt_of_le_of_ne hR6 (fun z => c6 (by rw [z]; rfl))
          have hds2 : ∀ i j : Nat, i < 14 → j < 10 + T → a i ≠ bA b 2 s.heap.size j := ds_bA hds (fun i hi => Nat.ne_of_lt (hB.lt i hi))
          refine lv_aload_n hx hb dL_act_154 rfl (lv_at hl 4 rfl) ?_
          refine kzL_X1_addTrader hC (c_X1_addTrader l D cI cQ b N hT8 hR6 (by omega)) mov_S hN rfl ⟨rfl, rfl⟩ ⟨Nat.le_of_ble_eq_true rfl, Nat.le_of_ble_eq_true rfl⟩ ⟨by show _ ≤ 60; omega, by show _ ≤ 480; omega⟩ hS hAN hA1 hl.1 rfl (Nat.le_of_ble_eq_true rfl) dL_act_155 (fun H locs hN hS hz hf => ?_)
          have hB := hB.kept (fun k hk => hf _ (hB.lt k hk) (fun ⟨i, hi, e⟩ => hds k i hk hi e))
          refine lv_aload_n hx hb dL_act_158 rfl (lv_at hl 3 rfl) ?_
          refine kxL_X0_addTrader hC (c_X0_addTrader l D cI cQ a S hJ.1 (by omega)) mov_B hB rfl ⟨rfl, rfl⟩ ⟨Nat.le_of_ble_eq_true rfl, Nat.le_of_ble_eq_true rfl⟩ ⟨by show _ ≤ 60; omega, by show _ ≤ 480; omega⟩ hS hAB hl.1 rfl (Nat.le_of_ble_eq_true rfl) dL_act_159 (fun H locs hB hS hz hf => ?_)
          have hN := hN.kept (fun k hk => hf _ (hN.1.lt k hk) (fun ⟨i, hi, e⟩ => hds2 i k hi hk e.symm))
          refine lv_iload hx hb dL_act_162 (lv_at hl 1 rfl) ?_
          refine lv_icmp_ne (tgt := 171) hx hb dL_act_164 (by decide) (fun c7 => ?_) (fun c7 => ?_)
          · exfalso; exact c7 rfl
          · refine lv_iconst (v := 1) hx hb dL_act_167 (by decide) ?_
            refine lv_goto (tgt := 172) hx hb dL_act_168 (by decide) ?_
            have hPA : PA D cI cQ a b T sec sz s H := by subst hsz; exact ⟨bA b 2 s.heap.size, _, _, T, R + 1, sec, bA_ne (by decide), fun j hj => by by_cases e : j = 2; exact Or.inr (by rw [e, bA_at]; omega); exact Or.inl ⟨j, hj, bA_ne e⟩, hT1, by omega, hB, hN, hds2, hJe.addT (by omega)⟩
            refine W.widen (k := 60) (n := 480) (by omega) (by omega) ?_
            exact wr_z hC hr hlocks mov_PA hPA hS (rfl) dL_act_172 (by rfl)
        · refine lv_iconst (v := 1) hx hb dL_act_152 (by decide) ?_
          have hPA : PA D cI cQ a b T sec sz s s.heap := by subst hsz; exact ⟨b, S, N, T, R, sec, rfl, fun j hj => Or.inl ⟨j, hj, rfl⟩, hT1, by omega, hB, hN, hds, hJe⟩
          refine W.widen (k := 60) (n := 480) (by omega) (by omega) ?_
          exact wr_z hC hr hlocks mov_PA hPA hS (rfl) dL_act_153 (by rfl)
      · have hR1 : 1 ≤ R := Nat.pos_of_ne_zero (fun z => c5 (by rw [z]; rfl))
        refine lv_iload hx hb dL_act_139 (lv_at hl 0 rfl) ?_
        refine lv_iconst (v := 2) hx hb dL_act_141 (by decide) ?_
        refine lv_icmp_ne (tgt := 173) hx hb dL_act_142 (by decide) (fun c8 => ?_) (fun c8 => ?_)
        · refine lv_iload_n hx hb dL_act_173 rfl (lv_at hl 5 rfl) ?_
          refine lv_iconst (v := 1) hx hb dL_act_174 (by decide) ?_
          refine lv_ishr hx hb dL_act_175 ?_
          refine lv_iload hx hb dL_act_176 (lv_at hl 1 rfl) ?_
          refine kL_L_below hC (c_L_below l (x >>> (1 &&& 31)) (n := R) (by omega) (by omega)) mov_T trivial rfl ⟨rfl, rfl⟩ ⟨Nat.le_of_ble_eq_true rfl, Nat.le_of_ble_eq_true rfl⟩ ⟨by show _ ≤ 60; omega, by show _ ≤ 480; omega⟩ hl.1 rfl (Nat.le_of_ble_eq_true rfl) dL_act_178 ?_
          have he5 := bel_lt (v := x >>> (1 &&& 31)) (n := R) (by omega)
          generalize bel (x >>> (1 &&& 31)) R = e5 at he5 ⊢
          refine lv_istore (lv' := [(6, .int (nI e5)), (5, .int (nI e1)), (4, .int (nI R)), (3, .int (nI T)), (0, .ref (a 13)), (1, .ref (b 0)), (2, .int (x))]) hx hb dL_act_181 hl (by decide) rfl (fun ls hl => ?_)
          refine lv_iload_n hx hb dL_act_183 rfl (lv_at hl 6 rfl) ?_
          refine lv_iconst (v := 3) hx hb dL_act_184 (by decide) ?_
          refine lv_ishr hx hb dL_act_185 ?_
          refine lv_iload_n hx hb dL_act_186 rfl (lv_at hl 3 rfl) ?_
          refine kL_L_below hC (c_L_below l (x >>> (3 &&& 31)) (n := T) (by omega) (by omega)) mov_T trivial rfl ⟨rfl, rfl⟩ ⟨Nat.le_of_ble_eq_true rfl, Nat.le_of_ble_eq_true rfl⟩ ⟨by show _ ≤ 60; omega, by show _ ≤ 480; omega⟩ hl.1 rfl (Nat.le_of_ble_eq_true rfl) dL_act_187 ?_
          have he6 := bel_lt (v := x >>> (3 &&& 31)) (n := T) (by omega)
          generalize bel (x >>> (3 &&& 31)) T = e6 at he6 ⊢
          refine lv_istore (lv' := [(7, .int (nI e6)), (6, .int (nI e5)), (5, .int (nI e1)), (4, .int (nI R)), (3, .int (nI T)), (0, .ref (a 13)), (1, .ref (b 0)), (2, .int (x))]) hx hb dL_act_190 hl (by decide) rfl (fun ls hl => ?_)
          refine lv_iconst (v := 1) hx hb dL_act_192 (by decide) ?_
          refine lv_iload_n hx hb dL_act_193 rfl (lv_at hl 7 rfl) ?_
          refine lv_iconst (v := 5) hx hb dL_act_194 (by decide) ?_
          refine lv_ishr hx hb dL_act_195 ?_
          refine lv_bipush (v := 9) hx hb dL_act_196 (by decide) ?_
          refine kL_L_below hC (c_L_below l (x >>> (5 &&& 31)) (n := 9) (by omega) (by omega)) mov_T trivial rfl ⟨rfl, rfl⟩ ⟨Nat.le_of_ble_eq_true rfl, Nat.le_of_ble_eq_true rfl⟩ ⟨by show _ ≤ 60; omega, by show _ ≤ 480; omega⟩ hl.1 rfl (Nat.le_of_ble_eq_true rfl) dL_act_198 ?_
          have he7 := bel_lt (v := x >>> (5 &&& 31)) (n := 9) (by omega)
          generalize bel (x >>> (5 &&& 31)) 9 = e7 at he7 ⊢
          refine xadd (v := nI (1 + e7)) hC dL_act_201 (nadd (i := 1) (j := e7) rfl rfl) ?_
          refine lv_istore (lv' := [(8, .int (nI (1 + e7))), (7, .int (nI e6)), (6, .int (nI e5)), (5, .int (nI e1)), (4, .int (nI R)), (3, .int (nI T)), (0, .ref (a 13)), (1, .ref (b 0)), (2, .int (x))]) hx hb dL_act_202 hl (by decide) rfl (fun ls hl => ?_)
          refine lv_aload_n hx hb dL_act_204 rfl (lv_at hl 7 rfl) ?_
          refine lv_iload hx hb dL_act_205 (lv_at hl 1 rfl) ?_
          refine kL_X1_price hC (c_X1_price l D cI cQ b N hT8 hR6 (t := e6) (by omega)) hN rfl ⟨rfl, rfl⟩ ⟨Nat.le_of_ble_eq_true rfl, Nat.le_of_ble_eq_true rfl⟩ ⟨by show _ ≤ 60; omega, by show _ ≤ 480; omega⟩ hl.1 rfl (Nat.le_of_ble_eq_true rfl) dL_act_207 ?_
          refine lv_istore (lv' := [(9, .int (sPr N e6)), (8, .int (nI (1 + e7))), (7, .int (nI e6)), (6, .int (nI e5)), (5, .int (nI e1)), (4, .int (nI R)), (3, .int (nI T)), (0, .ref (a 13)), (1, .ref (b 0)), (2, .int (x))]) hx hb dL_act_210 hl (by decide) rfl (fun ls hl => ?_)
          refine lv_iload hx hb dL_act_212 (lv_at hl 4 rfl) ?_
          refine lv_bipush (v := 8) hx hb dL_act_214 (by decide) ?_
          refine jge (i := e1) (j := 8) (tgt := 289) hC dL_act_216 (by decide) rfl rfl (by omega) (by omega) (fun c9 => ?_) (fun c9 => ?_)
          · refine lv_iload hx hb dL_act_289 (lv_at hl 4 rfl) ?_
            refine lv_bipush (v := 13) hx hb dL_act_291 (by decide) ?_
            refine jge (i := e1) (j := 13) (tgt := 350) hC dL_act_293 (by decide) rfl rfl (by omega) (by omega) (fun c10 => ?_) (fun c10 => ?_)
            · refine lv_iconst (v := 1) hx hb dL_act_350 (by decide) ?_
              refine lv_iload_n hx hb dL_act_351 rfl (lv_at hl 9 rfl) ?_
              refine lv_iconst (v := 2) hx hb dL_act_352 (by decide) ?_
              refine lv_ishr hx hb dL_act_353 ?_
              refine lv_iload_n hx hb dL_act_354 rfl (lv_at hl 9 rfl) ?_
              refine lv_bipush (v := 6) hx hb dL_act_355 (by decide) ?_
              refine kL_L_below hC (c_L_below l (x) (n := 6) (by omega) (by omega)) mov_T trivial rfl ⟨rfl, rfl⟩ ⟨Nat.le_of_ble_eq_true rfl, Nat.le_of_ble_eq_true rfl⟩ ⟨by show _ ≤ 60; omega, by show _ ≤ 480; omega⟩ hl.1 rfl (Nat.le_of_ble_eq_true rfl) dL_act_357 ?_
              have he8 := bel_lt (v := x) (n := 6) (by omega)
              generalize bel x 6 = e8 at he8 ⊢
              refine lv_if_ne (tgt := 368) hx hb dL_act_360 (by decide) (fun c11 => ?_) (fun c11 => ?_)
              · refine lv_iconst (v := 4) hx hb dL_act_368 (by decide) ?_
                refine kL_L_below hC (c_L_below l (x >>> (2 &&& 31)) (n := 4) (by omega) (by omega)) mov_T trivial rfl ⟨rfl, rfl⟩ ⟨Nat.le_of_ble_eq_true rfl, Nat.le_of_ble_eq_true rfl⟩ ⟨by show _ ≤ 60; omega, by show _ ≤ 480; omega⟩ hl.1 rfl (Nat.le_of_ble_eq_true rfl) dL_act_369 ?_
                have he9 := bel_lt (v := x >>> (2 &&& 31)) (n := 4) (by omega)
                generalize bel (x >>> (2 &&& 31)) 4 = e9 at he9 ⊢
                refine xadd (v := nI (1 + e9)) hC dL_act_372 (nadd (i := 1) (j := e9) rfl rfl) ?_
                refine lv_istore (lv' := [(10, .int (nI (1 + e9))), (9, .int (sPr N e6)), (8, .int (nI (1 + e7))), (7, .int (nI e6)), (6, .int (nI e5)), (5, .int (nI e1)), (4, .int (nI R)), (3, .int (nI T)), (0, .ref (a 13)), (1, .ref (b 0)), (2, .int (x))]) hx hb dL_act_373 hl (by decide) rfl (fun ls hl => ?_)
                refine lv_aload_n hx hb dL_act_375 rfl (lv_at hl 8 rfl) ?_
                refine lv_iload hx hb dL_act_376 (lv_at hl 0 rfl) ?_
                refine kxL_X0_pass hC (c_X0_pass l D cI cQ a S hJ.1 (k := 1 + e9) (by omega) (by omega)) mov_B hB rfl ⟨rfl, rfl⟩ ⟨Nat.le_of_ble_eq_true rfl, Nat.le_of_ble_eq_true rfl⟩ ⟨by show _ ≤ 60; omega, by show _ ≤ 480; omega⟩ hS hAB hl.1 rfl (Nat.le_of_ble_eq_true rfl) dL_act_378 (fun H locs hB hS hz hf => ?_)
                have hN := hN.kept (fun k hk => hf _ (hN.1.lt k hk) (fun ⟨i, hi, e⟩ => hds i k hi hk e.symm))
                refine lv_aload_n hx hb dL_act_381 rfl (lv_at hl 9 rfl) ?_
                refine lv_iload hx hb dL_act_382 (lv_at hl 0 rfl) ?_
                refine kzL_X1_behind hC (c_X1_behind l D cI cQ b N hT8 hR6 (k := 1 + e9) (by omega) hP) mov_S hN rfl ⟨rfl, rfl⟩ ⟨Nat.le_of_ble_eq_true rfl, Nat.le_of_ble_eq_true rfl⟩ ⟨by show _ ≤ 60; omega, by show _ ≤ 480; omega⟩ hS hAN hA1 hl.1 rfl (Nat.le_of_ble_eq_true rfl) dL_act_384 (fun H locs hN hS hz hf => ?_)
                have hB := hB.kept (fun k hk => hf _ (hB.lt k hk) (fun ⟨i, hi, e⟩ => hds k i hk hi e))
                refine lv_icmp_ne (tgt := 394) hx hb dL_act_387 (by decide) (fun c12 => ?_) (fun c12 => ?_)
                · exfalso; exact c12 (hJe.pa _ (by omega)).2
                · refine lv_iconst (v := 1) hx hb dL_act_390 (by decide) ?_
                  refine lv_goto (tgt := 395) hx hb dL_act_391 (by decide) ?_
                  have hPA : PA D cI cQ a b T sec sz s H := by subst hsz; exact ⟨b, _, _, T, R, sec + (1 + e9), rfl, fun j hj => Or.inl ⟨j, hj, rfl⟩, hT1, by omega, hB, hN, hds, (hJe.pa (1 + e9) (by omega)).1⟩
                  refine W.widen (k := 60) (n := 480) (by omega) (by omega) ?_
                  exact wr_z hC hr hlocks mov_PA hPA hS (rfl) dL_act_395 (by rfl)
              · refine lv_bipush (v := 60) hx hb dL_act_363 (by decide) ?_
                refine lv_goto (tgt := 369) hx hb dL_act_365 (by decide) ?_
                refine kL_L_below hC (c_L_below l (x >>> (2 &&& 31)) (n := 60) (by omega) (by omega)) mov_T trivial rfl ⟨rfl, rfl⟩ ⟨Nat.le_of_ble_eq_true rfl, Nat.le_of_ble_eq_true rfl⟩ ⟨by show _ ≤ 60; omega, by show _ ≤ 480; omega⟩ hl.1 rfl (Nat.le_of_ble_eq_true rfl) dL_act_369 ?_
                have he10 := bel_lt (v := x >>> (2 &&& 31)) (n := 60) (by omega)
                generalize bel (x >>> (2 &&& 31)) 60 = e10 at he10 ⊢
                refine xadd (v := nI (1 + e10)) hC dL_act_372 (nadd (i := 1) (j := e10) rfl rfl) ?_
                refine lv_istore (lv' := [(10, .int (nI (1 + e10))), (9, .int (sPr N e6)), (8, .int (nI (1 + e7))), (7, .int (nI e6)), (6, .int (nI e5)), (5, .int (nI e1)), (4, .int (nI R)), (3, .int (nI T)), (0, .ref (a 13)), (1, .ref (b 0)), (2, .int (x))]) hx hb dL_act_373 hl (by decide) rfl (fun ls hl => ?_)
                refine lv_aload_n hx hb dL_act_375 rfl (lv_at hl 8 rfl) ?_
                refine lv_iload hx hb dL_act_376 (lv_at hl 0 rfl) ?_
                refine kxL_X0_pass hC (c_X0_pass l D cI cQ a S hJ.1 (k := 1 + e10) (by omega) (by omega)) mov_B hB rfl ⟨rfl, rfl⟩ ⟨Nat.le_of_ble_eq_true rfl, Nat.le_of_ble_eq_true rfl⟩ ⟨by show _ ≤ 60; omega, by show _ ≤ 480; omega⟩ hS hAB hl.1 rfl (Nat.le_of_ble_eq_true rfl) dL_act_378 (fun H locs hB hS hz hf => ?_)
                have hN := hN.kept (fun k hk => hf _ (hN.1.lt k hk) (fun ⟨i, hi, e⟩ => hds i k hi hk e.symm))
                refine lv_aload_n hx hb dL_act_381 rfl (lv_at hl 9 rfl) ?_
                refine lv_iload hx hb dL_act_382 (lv_at hl 0 rfl) ?_
                refine kzL_X1_behind hC (c_X1_behind l D cI cQ b N hT8 hR6 (k := 1 + e10) (by omega) hP) mov_S hN rfl ⟨rfl, rfl⟩ ⟨Nat.le_of_ble_eq_true rfl, Nat.le_of_ble_eq_true rfl⟩ ⟨by show _ ≤ 60; omega, by show _ ≤ 480; omega⟩ hS hAN hA1 hl.1 rfl (Nat.le_of_ble_eq_true rfl) dL_act_384 (fun H locs hN hS hz hf => ?_)
                have hB := hB.kept (fun k hk => hf _ (hB.lt k hk) (fun ⟨i, hi, e⟩ => hds k i hk hi e))
                refine lv_icmp_ne (tgt := 394) hx hb dL_act_387 (by decide) (fun c13 => ?_) (fun c13 => ?_)
                · exfalso; exact c13 (hJe.pa _ (by omega)).2
                · refine lv_iconst (v := 1) hx hb dL_act_390 (by decide) ?_
                  refine lv_goto (tgt := 395) hx hb dL_act_391 (by decide) ?_
                  have hPA : PA D cI cQ a b T sec sz s H := by subst hsz; exact ⟨b, _, _, T, R, sec + (1 + e10), rfl, fun j hj => Or.inl ⟨j, hj, rfl⟩, hT1, by omega, hB, hN, hds, (hJe.pa (1 + e10) (by omega)).1⟩
                  refine W.widen (k := 60) (n := 480) (by omega) (by omega) ?_
                  exact wr_z hC hr hlocks mov_PA hPA hS (rfl) dL_act_395 (by rfl)
            · refine lv_aload_n hx hb dL_act_296 rfl (lv_at hl 8 rfl) ?_
              refine gL_held hC hN dL_act_297 ?_
              refine lv_iload hx hb dL_act_300 (lv_at hl 3 rfl) ?_
              refine lS_hr (e5) hC hN rfl (by omega) dL_act_302 ?_
              refine lv_iload hx hb dL_act_303 (lv_at hl 2 rfl) ?_
              refine lS_held (e5) (e6) hC hN (by omega) rfl (by omega) rfl dL_act_305 ?_
              refine lv_iload hx hb dL_act_306 (lv_at hl 1 rfl) ?_
              refine lv_isub hx hb dL_act_308 ?_
              refine lv_bipush (v := -9) hx hb dL_act_309 (by decide) ?_
              refine lv_icmp_ge (tgt := 316) hx hb dL_act_311 (by decide) (fun c14 => ?_) (fun c14 => ?_)
              · have hq1 : -9 ≤ S (7 + e5) e6 - nI (1 + e7) := by rw [hJ.held (by omega) (by omega)]; exact c14
                refine lv_aload_n hx hb dL_act_316 rfl (lv_at hl 8 rfl) ?_
                refine lv_iload hx hb dL_act_317 (lv_at hl 3 rfl) ?_
                refine lv_iload hx hb dL_act_319 (lv_at hl 2 rfl) ?_
                refine lv_iload hx hb dL_act_321 (lv_at hl 1 rfl) ?_
                refine kxL_X1_sell hC (c_X1_sell l D cI cQ b N hT8 hR6 (r := e5) (t := e6) (x := nI (1 + e7)) (by omega) (by omega)) mov_S hN rfl ⟨rfl, rfl⟩ ⟨Nat.le_of_ble_eq_true rfl, Nat.le_of_ble_eq_true rfl⟩ ⟨by show _ ≤ 60; omega, by show _ ≤ 480; omega⟩ hS hAN hl.1 rfl (Nat.le_of_ble_eq_true rfl) dL_act_323 (fun H locs hN hS hz hf => ?_)
                have hB := hB.kept (fun k hk => hf _ (hB.lt k hk) (fun ⟨i, hi, e⟩ => hds k i hk hi e))
                refine lv_aload_n hx hb dL_act_326 rfl (lv_at hl 7 rfl) ?_
                refine lv_iload hx hb dL_act_327 (lv_at hl 3 rfl) ?_
                refine lv_iload hx hb dL_act_329 (lv_at hl 2 rfl) ?_
                refine lv_iload hx hb dL_act_331 (lv_at hl 1 rfl) ?_
                refine kxL_X0_sell hC (c_X0_sell l D cI cQ a S hJ.1 (r := e5) (t := e6) (k := 1 + e7) (by omega) (by omega) (by omega) (by omega) hq1) mov_B hB rfl ⟨rfl, rfl⟩ ⟨Nat.le_of_ble_eq_true rfl, Nat.le_of_ble_eq_true rfl⟩ ⟨by show _ ≤ 60; omega, by show _ ≤ 480; omega⟩ hS hAB hl.1 rfl (Nat.le_of_ble_eq_true rfl) dL_act_333 (fun H locs hB hS hz hf => ?_)
                have hN := hN.kept (fun k hk => hf _ (hN.1.lt k hk) (fun ⟨i, hi, e⟩ => hds i k hi hk e.symm))
                refine lv_iload hx hb dL_act_336 (lv_at hl 0 rfl) ?_
                refine lv_iload hx hb dL_act_338 (lv_at hl 1 rfl) ?_
                refine lv_imul hx hb dL_act_340 ?_
                refine lv_icmp_ne (tgt := 348) hx hb dL_act_341 (by decide) (fun c15 => ?_) (fun c15 => ?_)
                · exfalso; exact c15 (by rw [hJ.prc (by omega)])
                · refine lv_iconst (v := 1) hx hb dL_act_344 (by decide) ?_
                  refine lv_goto (tgt := 349) hx hb dL_act_345 (by decide) ?_
                  have hPA : PA D cI cQ a b T sec sz s H := by subst hsz; exact ⟨b, _, _, T, R, sec, rfl, fun j hj => Or.inl ⟨j, hj, rfl⟩, hT1, by omega, hB, hN, hds, hJe.sell (r := e5) (t := e6) (k := 1 + e7) (by omega) (by omega) (by omega) (by omega) hq1⟩
                  refine W.widen (k := 60) (n := 480) (by omega) (by omega) ?_
                  exact wr_z hC hr hlocks mov_PA hPA hS (rfl) dL_act_349 (by rfl)
              · refine lv_iconst (v := 1) hx hb dL_act_314 (by decide) ?_
                have hPA : PA D cI cQ a b T sec sz s s.heap := by subst hsz; exact ⟨b, S, N, T, R, sec, rfl, fun j hj => Or.inl ⟨j, hj, rfl⟩, hT1, by omega, hB, hN, hds, hJe⟩
                refine W.widen (k := 60) (n := 480) (by omega) (by omega) ?_
                exact wr_z hC hr hlocks mov_PA hPA hS (rfl) dL_act_315 (by rfl)
          · refine lv_aload_n hx hb dL_act_219 rfl (lv_at hl 8 rfl) ?_
            refine gL_held hC hN dL_act_220 ?_
            refine lv_iload hx hb dL_act_223 (lv_at hl 3 rfl) ?_
            refine lS_hr (e5) hC hN rfl (by omega) dL_act_225 ?_
            refine lv_iload hx hb dL_act_226 (lv_at hl 2 rfl) ?_
            refine lS_held (e5) (e6) hC hN (by omega) rfl (by omega) rfl dL_act_228 ?_
            refine lv_iload hx hb dL_act_229 (lv_at hl 1 rfl) ?_
            refine lv_iadd hx hb dL_act_231 ?_
            refine lv_bipush (v := 9) hx hb dL_act_232 (by decide) ?_
            refine lv_icmp_gt (tgt := 252) hx hb dL_act_234 (by decide) (fun c16 => ?_) (fun c16 => ?_)
            · refine lv_iconst (v := 1) hx hb dL_act_252 (by decide) ?_
              have hPA : PA D cI cQ a b T sec sz s s.heap := by subst hsz; exact ⟨b, S, N, T, R, sec, rfl, fun j hj => Or.inl ⟨j, hj, rfl⟩, hT1, by omega, hB, hN, hds, hJe⟩
              refine W.widen (k := 60) (n := 480) (by omega) (by omega) ?_
              exact wr_z hC hr hlocks mov_PA hPA hS (rfl) dL_act_253 (by rfl)
            · refine lv_aload_n hx hb dL_act_237 rfl (lv_at hl 8 rfl) ?_
              refine gL_purses hC hN dL_act_238 ?_
              refine lv_iload hx hb dL_act_241 (lv_at hl 3 rfl) ?_
              refine lS_pur (e5) hC hN rfl (by omega) (by omega) rfl dL_act_243 ?_
              refine lv_iload hx hb dL_act_244 (lv_at hl 0 rfl) ?_
              refine lv_iload hx hb dL_act_246 (lv_at hl 1 rfl) ?_
              refine lv_imul hx hb dL_act_248 ?_
              refine lv_icmp_ge (tgt := 254) hx hb dL_act_249 (by decide) (fun c17 => ?_) (fun c17 => ?_)
              · have hq1 : S (7 + e5) e6 + nI (1 + e7) ≤ 9 := by rw [hJ.held (by omega) (by omega)]; exact Int32.not_lt.mp c16
                have hq2 : bPr S R e6 * nI (1 + e7) ≤ S 5 e5 := by rw [hJ.prc (by omega), hJ.2.1 e5 (by omega)]; exact c17
                refine lv_aload_n hx hb dL_act_254 rfl (lv_at hl 8 rfl) ?_
                refine lv_iload hx hb dL_act_255 (lv_at hl 3 rfl) ?_
                refine lv_iload hx hb dL_act_257 (lv_at hl 2 rfl) ?_
                refine lv_iload hx hb dL_act_259 (lv_at hl 1 rfl) ?_
                refine lv_ineg hx hb dL_act_261 ?_
                refine kxL_X1_sell hC (c_X1_sell l D cI cQ b N hT8 hR6 (r := e5) (t := e6) (x := -(nI (1 + e7))) (by omega) (by omega)) mov_S hN rfl ⟨rfl, rfl⟩ ⟨Nat.le_of_ble_eq_true rfl, Nat.le_of_ble_eq_true rfl⟩ ⟨by show _ ≤ 60; omega, by show _ ≤ 480; omega⟩ hS hAN hl.1 rfl (Nat.le_of_ble_eq_true rfl) dL_act_262 (fun H locs hN hS hz hf => ?_)
                have hB := hB.kept (fun k hk => hf _ (hB.lt k hk) (fun ⟨i, hi, e⟩ => hds k i hk hi e))
                refine lv_aload_n hx hb dL_act_265 rfl (lv_at hl 7 rfl) ?_
                refine lv_iload hx hb dL_act_266 (lv_at hl 3 rfl) ?_
                refine lv_iload hx hb dL_act_268 (lv_at hl 2 rfl) ?_
                refine lv_iload hx hb dL_act_270 (lv_at hl 1 rfl) ?_
                refine kxL_X0_buy hC (c_X0_buy l D cI cQ a S hJ.1 (r := e5) (t := e6) (k := 1 + e7) (by omega) (by omega) (by omega) (by omega) hq1 hq2) mov_B hB rfl ⟨rfl, rfl⟩ ⟨Nat.le_of_ble_eq_true rfl, Nat.le_of_ble_eq_true rfl⟩ ⟨by show _ ≤ 60; omega, by show _ ≤ 480; omega⟩ hS hAB hl.1 rfl (Nat.le_of_ble_eq_true rfl) dL_act_272 (fun H locs hB hS hz hf => ?_)
                have hN := hN.kept (fun k hk => hf _ (hN.1.lt k hk) (fun ⟨i, hi, e⟩ => hds i k hi hk e.symm))
                refine lv_iload hx hb dL_act_275 (lv_at hl 0 rfl) ?_
                refine lv_iload hx hb dL_act_277 (lv_at hl 1 rfl) ?_
                refine lv_imul hx hb dL_act_279 ?_
                refine lv_icmp_ne (tgt := 287) hx hb dL_act_280 (by decide) (fun c18 => ?_) (fun c18 => ?_)
                · exfalso; exact c18 (by rw [hJ.prc (by omega)])
                · refine lv_iconst (v := 1) hx hb dL_act_283 (by decide) ?_
                  refine lv_goto (tgt := 288) hx hb dL_act_284 (by decide) ?_
                  have hPA : PA D cI cQ a b T sec sz s H := by subst hsz; exact ⟨b, _, _, T, R, sec, rfl, fun j hj => Or.inl ⟨j, hj, rfl⟩, hT1, by omega, hB, hN, hds, hJe.buy (r := e5) (t := e6) (k := 1 + e7) (by omega) (by omega) (by omega) (by omega) hq1⟩
                  refine W.widen (k := 60) (n := 480) (by omega) (by omega) ?_
                  exact wr_z hC hr hlocks mov_PA hPA hS (rfl) dL_act_288 (by rfl)
              · refine lv_iconst (v := 1) hx hb dL_act_252 (by decide) ?_
                have hPA : PA D cI cQ a b T sec sz s s.heap := by subst hsz; exact ⟨b, S, N, T, R, sec, rfl, fun j hj => Or.inl ⟨j, hj, rfl⟩, hT1, by omega, hB, hN, hds, hJe⟩
                refine W.widen (k := 60) (n := 480) (by omega) (by omega) ?_
                exact wr_z hC hr hlocks mov_PA hPA hS (rfl) dL_act_253 (by rfl)
        · refine lv_iload hx hb dL_act_145 (lv_at hl 1 rfl) ?_
          refine lv_bipush (v := 6) hx hb dL_act_147 (by decide) ?_
          refine lv_icmp_ne (tgt := 154) hx hb dL_act_149 (by decide) (fun c19 => ?_) (fun c19 => ?_)
          · have hR5 : R < 6 := Nat.lt_of_le_of_ne hR6 (fun z => c19 (by rw [z]; rfl))
            have hds2 : ∀ i j : Nat, i < 14 → j < 10 + T → a i ≠ bA b 2 s.heap.size j := ds_bA hds (fun i hi => Nat.ne_of_lt (hB.lt i hi))
            refine lv_aload_n hx hb dL_act_154 rfl (lv_at hl 4 rfl) ?_
            refine kzL_X1_addTrader hC (c_X1_addTrader l D cI cQ b N hT8 hR6 (by omega)) mov_S hN rfl ⟨rfl, rfl⟩ ⟨Nat.le_of_ble_eq_true rfl, Nat.le_of_ble_eq_true rfl⟩ ⟨by show _ ≤ 60; omega, by show _ ≤ 480; omega⟩ hS hAN hA1 hl.1 rfl (Nat.le_of_ble_eq_true rfl) dL_act_155 (fun H locs hN hS hz hf => ?_)
            have hB := hB.kept (fun k hk => hf _ (hB.lt k hk) (fun ⟨i, hi, e⟩ => hds k i hk hi e))
            refine lv_aload_n hx hb dL_act_158 rfl (lv_at hl 3 rfl) ?_
            refine kxL_X0_addTrader hC (c_X0_addTrader l D cI cQ a S hJ.1 (by omega)) mov_B hB rfl ⟨rfl, rfl⟩ ⟨Nat.le_of_ble_eq_true rfl, Nat.le_of_ble_eq_true rfl⟩ ⟨by show _ ≤ 60; omega, by show _ ≤ 480; omega⟩ hS hAB hl.1 rfl (Nat.le_of_ble_eq_true rfl) dL_act_159 (fun H locs hB hS hz hf => ?_)
            have hN := hN.kept (fun k hk => hf _ (hN.1.lt k hk) (fun ⟨i, hi, e⟩ => hds2 i k hi hk e.symm))
            refine lv_iload hx hb dL_act_162 (lv_at hl 1 rfl) ?_
            refine lv_icmp_ne (tgt := 171) hx hb dL_act_164 (by decide) (fun c20 => ?_) (fun c20 => ?_)
            · exfalso; exact c20 rfl
            · refine lv_iconst (v := 1) hx hb dL_act_167 (by decide) ?_
              refine lv_goto (tgt := 172) hx hb dL_act_168 (by decide) ?_
              have hPA : PA D cI cQ a b T sec sz s H := by subst hsz; exact ⟨bA b 2 s.heap.size, _, _, T, R + 1, sec, bA_ne (by decide), fun j hj => by by_cases e : j = 2; exact Or.inr (by rw [e, bA_at]; omega); exact Or.inl ⟨j, hj, bA_ne e⟩, hT1, by omega, hB, hN, hds2, hJe.addT (by omega)⟩
              refine W.widen (k := 60) (n := 480) (by omega) (by omega) ?_
              exact wr_z hC hr hlocks mov_PA hPA hS (rfl) dL_act_172 (by rfl)
          · refine lv_iconst (v := 1) hx hb dL_act_152 (by decide) ?_
            have hPA : PA D cI cQ a b T sec sz s s.heap := by subst hsz; exact ⟨b, S, N, T, R, sec, rfl, fun j hj => Or.inl ⟨j, hj, rfl⟩, hT1, by omega, hB, hN, hds, hJe⟩
            refine W.widen (k := 60) (n := 480) (by omega) (by omega) ?_
            exact wr_z hC hr hlocks mov_PA hPA hS (rfl) dL_act_153 (by rfl)
    · refine lv_iload_n hx hb dL_act_34 rfl (lv_at hl 2 rfl) ?_
      refine lv_bipush (v := 8) hx hb dL_act_35 (by decide) ?_
      refine lv_icmp_ne (tgt := 42) hx hb dL_act_37 (by decide) (fun c21 => ?_) (fun c21 => ?_)
      · have hT7 : T < 8 := Nat.lt_of_le_of_ne hT8 (fun z => c21 (by rw [z]; rfl))
        refine lv_iconst (v := 2) hx hb dL_act_42 (by decide) ?_
        refine lv_iload_n hx hb dL_act_43 rfl (lv_at hl 5 rfl) ?_
        refine lv_iconst (v := 3) hx hb dL_act_44 (by decide) ?_
        refine lv_ishr hx hb dL_act_45 ?_
        refine lv_bipush (v := 19) hx hb dL_act_46 (by decide) ?_
        refine kL_L_below hC (c_L_below l (x >>> (3 &&& 31)) (n := 19) (by omega) (by omega)) mov_T trivial rfl ⟨rfl, rfl⟩ ⟨Nat.le_of_ble_eq_true rfl, Nat.le_of_ble_eq_true rfl⟩ ⟨by show _ ≤ 60; omega, by show _ ≤ 480; omega⟩ hl.1 rfl (Nat.le_of_ble_eq_true rfl) dL_act_48 ?_
        have he11 := bel_lt (v := x >>> (3 &&& 31)) (n := 19) (by omega)
        generalize bel (x >>> (3 &&& 31)) 19 = e11 at he11 ⊢
        refine xadd (v := nI (2 + e11)) hC dL_act_51 (nadd (i := 2) (j := e11) rfl rfl) ?_
        refine lv_istore (lv' := [(6, .int (nI (2 + e11))), (5, .int (nI e1)), (4, .int (nI R)), (3, .int (nI T)), (0, .ref (a 13)), (1, .ref (b 0)), (2, .int (x))]) hx hb dL_act_52 hl (by decide) rfl (fun ls hl => ?_)
        refine lv_iconst (v := 5) hx hb dL_act_54 (by decide) ?_
        refine nwG 5 hC hN.1.1 rfl (by omega) hS (by show _ ≤ 60; omega) (by show _ ≤ 480; omega) dL_act_55 (fun H hG hS hz hold => ?_)
        refine lv_dup hx hb dL_act_57 rfl ?_
        refine lv_iconst (v := 0) hx hb dL_act_58 (by decide) ?_
        refine lv_iconst (v := 1) hx hb dL_act_59 (by decide) ?_
        refine lv_iload_n hx hb dL_act_60 rfl (lv_at hl 6 rfl) ?_
        refine lv_iconst (v := 1) hx hb dL_act_61 (by decide) ?_
        refine lv_ishr hx hb dL_act_62 ?_
        refine lv_bipush (v := 9) hx hb dL_act_63 (by decide) ?_
        refine kL_L_below hC (c_L_below l (x >>> (1 &&& 31)) (n := 9) (by omega) (by omega)) mov_T trivial rfl ⟨rfl, rfl⟩ ⟨Nat.le_of_ble_eq_true rfl, Nat.le_of_ble_eq_true rfl⟩ ⟨by show _ ≤ 60; omega, by show _ ≤ 480; omega⟩ hl.1 rfl (Nat.le_of_ble_eq_true rfl) dL_act_65 ?_
        have he12 := bel_lt (v := x >>> (1 &&& 31)) (n := 9) (by omega)
        generalize bel (x >>> (1 &&& 31)) 9 = e12 at he12 ⊢
        refine xadd (v := nI (1 + e12)) hC dL_act_68 (nadd (i := 1) (j := e12) rfl rfl) ?_
        refine stG (b := fun _ => s.heap.size) (k := 0) (E := fun _ => eI cI 5 (fun _ => 0)) 0 hC hG (by decide) rfl rfl (by omega) (by omega) hS (hA1 _ (Nat.le_refl _)) dL_act_69 (fun H locs hG hS hz9 hf => ?_)
        have hG : GW D cI cQ 1 (fun _ => s.heap.size) (fun _ => eI cI 5 (upd (fun _ => 0) 0 (nI (1 + e12)))) s H := hG.cg (fun k hk => by rw [show k = 0 by omega, eU_self])
        have hz : H.size = s.heap.size + 1 := hz9.trans hz
        have hold : ∀ q : Nat, q < s.heap.size → H[q]? = s.heap[q]? := fun q hq => (hf q (Nat.ne_of_lt hq)).trans (hold q hq)
        refine lv_dup hx hb dL_act_70 rfl ?_
        refine lv_iconst (v := 1) hx hb dL_act_71 (by decide) ?_
        refine lv_iload hx hb dL_act_72 (lv_at hl 0 rfl) ?_
        refine stG (b := fun _ => s.heap.size) (k := 0) (E := fun _ => eI cI 5 (upd (fun _ => 0) 0 (nI (1 + e12)))) 1 hC hG (by decide) rfl rfl (by omega) (by omega) hS (hA1 _ (Nat.le_refl _)) dL_act_74 (fun H locs hG hS hz9 hf => ?_)
        have hG : GW D cI cQ 1 (fun _ => s.heap.size) (fun _ => eI cI 5 (upd (upd (fun _ => 0) 0 (nI (1 + e12))) 1 (nI (2 + e11)))) s H := hG.cg (fun k hk => by rw [show k = 0 by omega, eU_self])
        have hz : H.size = s.heap.size + 1 := hz9.trans hz
        have hold : ∀ q : Nat, q < s.heap.size → H[q]? = s.heap[q]? := fun q hq => (hf q (Nat.ne_of_lt hq)).trans (hold q hq)
        refine lv_dup hx hb dL_act_75 rfl ?_
        refine lv_iconst (v := 2) hx hb dL_act_76 (by decide) ?_
        refine lv_iload_n hx hb dL_act_77 rfl (lv_at hl 6 rfl) ?_
        refine lv_bipush (v := 6) hx hb dL_act_78 (by decide) ?_
        refine lv_ishr hx hb dL_act_80 ?_
        refine lv_iload hx hb dL_act_81 (lv_at hl 0 rfl) ?_
        refine kL_L_below hC (c_L_below l (x >>> (6 &&& 31)) (n := 2 + e11) (by omega) (by omega)) mov_T trivial rfl ⟨rfl, rfl⟩ ⟨Nat.le_of_ble_eq_true rfl, Nat.le_of_ble_eq_true rfl⟩ ⟨by show _ ≤ 60; omega, by show _ ≤ 480; omega⟩ hl.1 rfl (Nat.le_of_ble_eq_true rfl) dL_act_83 ?_
        have he13 := bel_lt (v := x >>> (6 &&& 31)) (n := 2 + e11) (by omega)
        generalize bel (x >>> (6 &&& 31)) (2 + e11) = e13 at he13 ⊢
        refine stG (b := fun _ => s.heap.size) (k := 0) (E := fun _ => eI cI 5 (upd (upd (fun _ => 0) 0 (nI (1 + e12))) 1 (nI (2 + e11)))) 2 hC hG (by decide) rfl rfl (by omega) (by omega) hS (hA1 _ (Nat.le_refl _)) dL_act_86 (fun H locs hG hS hz9 hf => ?_)
        have hG : GW D cI cQ 1 (fun _ => s.heap.size) (fun _ => eI cI 5 (upd (upd (upd (fun _ => 0) 0 (nI (1 + e12))) 1 (nI (2 + e11))) 2 (nI e13))) s H := hG.cg (fun k hk => by rw [show k = 0 by omega, eU_self])
        have hz : H.size = s.heap.size + 1 := hz9.trans hz
        have hold : ∀ q : Nat, q < s.heap.size → H[q]? = s.heap[q]? := fun q hq => (hf q (Nat.ne_of_lt hq)).trans (hold q hq)
        refine lv_dup hx hb dL_act_87 rfl ?_
        refine lv_iconst (v := 3) hx hb dL_act_88 (by decide) ?_
        refine lv_iconst (v := 0) hx hb dL_act_89 (by decide) ?_
        refine stG (b := fun _ => s.heap.size) (k := 0) (E := fun _ => eI cI 5 (upd (upd (upd (fun _ => 0) 0 (nI (1 + e12))) 1 (nI (2 + e11))) 2 (nI e13))) 3 hC hG (by decide) rfl rfl (by omega) (by omega) hS (hA1 _ (Nat.le_refl _)) dL_act_90 (fun H locs hG hS hz9 hf => ?_)
        have hG : GW D cI cQ 1 (fun _ => s.heap.size) (fun _ => eI cI 5 (upd (upd (upd (upd (fun _ => 0) 0 (nI (1 + e12))) 1 (nI (2 + e11))) 2 (nI e13)) 3 0)) s H := hG.cg (fun k hk => by rw [show k = 0 by omega, eU_self])
        have hz : H.size = s.heap.size + 1 := hz9.trans hz
        have hold : ∀ q : Nat, q < s.heap.size → H[q]? = s.heap[q]? := fun q hq => (hf q (Nat.ne_of_lt hq)).trans (hold q hq)
        refine lv_dup hx hb dL_act_91 rfl ?_
        refine lv_iconst (v := 4) hx hb dL_act_92 (by decide) ?_
        refine lv_iconst (v := 0) hx hb dL_act_93 (by decide) ?_
        refine stG (b := fun _ => s.heap.size) (k := 0) (E := fun _ => eI cI 5 (upd (upd (upd (upd (fun _ => 0) 0 (nI (1 + e12))) 1 (nI (2 + e11))) 2 (nI e13)) 3 0)) 4 hC hG (by decide) rfl rfl (by omega) (by omega) hS (hA1 _ (Nat.le_refl _)) dL_act_94 (fun H locs hG hS hz9 hf => ?_)
        have hG : GW D cI cQ 1 (fun _ => s.heap.size) (fun _ => eI cI 5 (upd (upd (upd (upd (upd (fun _ => 0) 0 (nI (1 + e12))) 1 (nI (2 + e11))) 2 (nI e13)) 3 0) 4 0)) s H := hG.cg (fun k hk => by rw [show k = 0 by omega, eU_self])
        have hz : H.size = s.heap.size + 1 := hz9.trans hz
        have hold : ∀ q : Nat, q < s.heap.size → H[q]? = s.heap[q]? := fun q hq => (hf q (Nat.ne_of_lt hq)).trans (hold q hq)
        refine lv_astore (lv' := [(7, .ref (s.heap.size)), (6, .int (nI (2 + e11))), (5, .int (nI e1)), (4, .int (nI R)), (3, .int (nI T)), (0, .ref (a 13)), (1, .ref (b 0)), (2, .int (x))]) hx hb dL_act_95 hl (by decide) rfl (fun ls hl => ?_)
        have hB := hB.kept (H1 := H) (fun k hk => hold _ (hB.lt k hk))
        have hN := hN.kept (H1 := H) (fun k hk => hold _ (hN.1.lt k hk))
        refine lv_aload_n hx hb dL_act_97 rfl (lv_at hl 6 rfl) ?_
        refine lv_aload_n hx hb dL_act_98 rfl (lv_at hl 6 rfl) ?_
        refine gL_towers hC hN dL_act_99 ?_
        refine lv_aload hx hb dL_act_102 (lv_at hl 0 rfl) ?_
        have hM := c_X1_with l D cI cQ (b 1) (fun i => if i = T then s.heap.size else b (10 + i)) T H.size hT7
        rw [show (if T = T then s.heap.size else b (10 + T)) = s.heap.size from if_pos rfl] at hM
        refine kSq (index := 25) hC hM (blind mov_Wi) (fun U hU hW1 => ?_) (good_S (List.mem_of_getElem? (i := 55) (by decide +kernel)) (List.mem_of_getElem? (i := 56) (by decide +kernel)) (List.mem_of_getElem? (i := 33) (by decide +kernel)) (List.mem_of_getElem? (i := 57) (by decide +kernel))) rfl rfl ⟨by decide +kernel, by decide +kernel, by show _ = some 2; decide +kernel⟩ ⟨Nat.le_of_ble_eq_true rfl, Nat.le_of_ble_eq_true rfl⟩ ⟨by show _ ≤ 60; omega, by show _ ≤ 480; omega⟩ hl.1 rfl (Nat.le_of_ble_eq_true rfl) dL_act_104 (fun v st t L hst hvm hq hL => ?_)
        · have e9 : U.heap = H := hU
          rw [e9]
          refine ⟨va_K.moved hW1.alike hN.1.1, AOA_mv hW1.alike hN.2, rfl, ?_, fun i hi => ?_⟩
          · have h5 := hN.1.2.1 1 (by omega)
            have e8 : sE cI cQ b N T R 1 = eQ cQ T (fun i => if i < T then some (if i = T then s.heap.size else b (10 + i)) else none) := congrArg (eQ cQ T) (funext fun i => by
                by_cases c : i < T
                · rw [if_pos c, if_pos c, if_neg (by omega)]
                · rw [if_neg c, if_neg c])
            rw [e8] at h5
            exact h5
          · by_cases c : i = T
            · subst c
              exact ⟨5, _, by dsimp only; rw [if_pos rfl]; exact hG.2.1 0 (by decide)⟩
            · refine ⟨5, N (20 + i), ?_⟩
              dsimp only
              rw [if_neg c, ← sE_t (cQ := cQ) (b := b) (N := N) (T := T) (R := R)]
              exact hN.1.2.1 (10 + i) (by omega)
        obtain ⟨hv, hwo, hF⟩ := hq
        cases hv
        have hS := S_more hS hst hF (fun q hq => hA1 q (Nat.le_trans hS.1 hq)) hL
        obtain ⟨hz2, hk2⟩ := hF
        rw [hst] at hz2 hk2
        have hold2 : ∀ q : Nat, q < H.size → t.heap[q]? = H[q]? := fun q hq => hk2 q hq (Nat.not_le.mpr hq)
        have hB := hB.kept (H1 := t.heap) (fun k hk => hold2 _ (hB.lt k hk))
        have hN := hN.kept (H1 := t.heap) (fun k hk => hold2 _ (hN.1.lt k hk))
        have hG := hG.kept (H1 := t.heap) (fun k hk => hold2 _ (by omega))
        have hbl : ∀ k, k < 10 + T → b k < s.heap.size := hNl
        obtain ⟨w1, hw1⟩ : ∃ w1, w1 = H.size := ⟨_, rfl⟩
        unfold WoW at hwo
        rw [← hw1] at hwo ⊢
        generalize hHt : t.heap = H3 at hwo hS hz2 hk2 hold2 hB hN hG ⊢
        refine ptG (k := 0) (g := 1) (w := .ref w1) (ty := .array (.array .int)) hC hN.1 (by omega) rfl hS (hAN _ ⟨0, by omega, rfl⟩) (by decide) (List.mem_of_getElem? (i := 5) (by decide +kernel)) rfl (fun _ h9 => h9) (by decide +kernel) rfl rfl (Nat.le_of_ble_eq_true rfl) dL_act_107 (fun H locs h1 hS hz4 hf4 => ?_)
        have hb0 := hNl 0 (by omega)
        have hB := hB.kept (H1 := H) (fun k hk => hf4 _ (fun z => hds k 0 hk (by omega) z))
        have hG := hG.kept (H1 := H) (fun k hk => hf4 _ (Nat.ne_of_gt hb0))
        have hN : SW D cI cQ (bA (bA b 1 w1) (10 + T) s.heap.size) (nLi N T (upd (upd (upd (upd (upd (fun _ => 0) 0 (nI (1 + e12))) 1 (nI (2 + e11))) 2 (nI e13)) 3 0) 4 0)) (T + 1) R s H := SW.adW hN h1 (va_at.kept hwo (hf4 _ (fun z => by have : w1 = b 0 := z; omega))) (hG.2.1 0 (by decide)) (fun k hk z => by have := hbl k hk; omega) (fun k hk z => by have := hbl k hk; omega) (by omega)
        have hds2 : ∀ i j : Nat, i < 14 → j < 10 + (T + 1) → a i ≠ bA (bA b 1 w1) (10 + T) s.heap.size j := ds_ext (ds_bA hds (fun i hi z => by have := hBl i hi; omega)) (fun i hi z => by have := hBl i hi; omega)
        have hfr : ∀ j : Nat, j < 10 + (T + 1) → inG (10 + T) b (bA (bA b 1 w1) (10 + T) s.heap.size j) ∨ s.heap.size ≤ bA (bA b 1 w1) (10 + T) s.heap.size j := by
          intro j hj
          by_cases e : j = 10 + T
          · rw [e, bA_at]
            exact Or.inr (Nat.le_refl _)
          · rw [bA_ne e]
            by_cases e1 : j = 1
            · rw [e1, bA_at]
              exact Or.inr (by omega)
            · rw [bA_ne e1]
              exact Or.inl ⟨j, by omega, rfl⟩
        refine lv_aload_n hx hb dL_act_110 rfl (lv_at hl 5 rfl) ?_
        refine lv_aload hx hb dL_act_111 (lv_at hl 0 rfl) ?_
        refine lv_iconst (v := 0) hx hb dL_act_113 (by decide) ?_
        refine ldG (b := fun _ => s.heap.size) (k := 0) (v := nI (1 + e12)) 0 hC hG (by decide) rfl rfl (by omega) (by omega) (by simp [upd]) dL_act_114 ?_
        refine lv_iload hx hb dL_act_115 (lv_at hl 1 rfl) ?_
        refine lv_aload hx hb dL_act_117 (lv_at hl 0 rfl) ?_
        refine lv_iconst (v := 2) hx hb dL_act_119 (by decide) ?_
        refine ldG (b := fun _ => s.heap.size) (k := 0) (v := nI e13) 2 hC hG (by decide) rfl rfl (by omega) (by omega) (by simp [upd]) dL_act_120 ?_
        refine kxL_X0_list hC (c_X0_list l D cI cQ a S hJ.1 hT7 (w0 := 1 + e12) (p0 := 2 + e11) (b0 := e13) (by omega) (by omega) (by omega) (by omega) (by omega)) mov_B hB rfl ⟨rfl, rfl⟩ ⟨Nat.le_of_ble_eq_true rfl, Nat.le_of_ble_eq_true rfl⟩ ⟨by show _ ≤ 60; omega, by show _ ≤ 480; omega⟩ hS hAB hl.1 rfl (Nat.le_of_ble_eq_true rfl) dL_act_121 (fun H locs hB hS hz hf => ?_)
        have hN := hN.kept (fun k hk => hf _ (hN.1.lt k hk) (fun ⟨i, hi, e⟩ => hds2 i k hi hk e.symm))
        refine lv_iload_n hx hb dL_act_124 rfl (lv_at hl 4 rfl) ?_
        refine lv_icmp_ne (tgt := 132) hx hb dL_act_125 (by decide) (fun c22 => ?_) (fun c22 => ?_)
        · exfalso; exact c22 rfl
        · refine lv_iconst (v := 1) hx hb dL_act_128 (by decide) ?_
          refine lv_goto (tgt := 133) hx hb dL_act_129 (by decide) ?_
          have hPA : PA D cI cQ a b T sec sz s H := by subst hsz; exact ⟨bA (bA b 1 w1) (10 + T) s.heap.size, _, _, T + 1, R, sec, by rw [bA_ne (by omega), bA_ne (by omega)], hfr, by omega, by omega, hB, hN, hds2, hJe.list hT7 (w0 := 1 + e12) (p0 := 2 + e11) (b0 := e13) (by omega) (by omega) (by omega) (by simp [upd]) (by simp [upd]) (by simp [upd]) (by simp [upd]) (by simp [upd])⟩
          refine W.widen (k := 60) (n := 480) (by omega) (by omega) ?_
          exact wr_z hC hr hlocks mov_PA hPA hS (rfl) dL_act_133 (by rfl)
      · have hT1 : 1 ≤ T := by have e9 := (nI_eq (a := T) (b := 8) (by omega) (by omega)).mp c21; omega
        refine lv_iconst (v := 1) hx hb dL_act_40 (by decide) ?_
        have hPA : PA D cI cQ a b T sec sz s s.heap := by subst hsz; exact ⟨b, S, N, T, R, sec, rfl, fun j hj => Or.inl ⟨j, hj, rfl⟩, hT1, by omega, hB, hN, hds, hJe⟩
        refine W.widen (k := 60) (n := 480) (by omega) (by omega) ?_
        exact wr_z hC hr hlocks mov_PA hPA hS (rfl) dL_act_41 (by rfl)

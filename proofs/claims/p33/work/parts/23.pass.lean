set_option maxHeartbeats 4000000 in
set_option maxRecDepth 100000 in
theorem c_X1_pass (l : Launch) (D : va_G) (cI cQ : ClassId) (b : Nat → Nat) (N : bS) {T R : Nat} (hT8 : T ≤ 8) (hR6 : R ≤ 6)  {sz : Nat} (hP : ∀ t, t < T → ¬ N (20 + t) 1 = 0) : Wr l yX1_pass cX1_pass 6 (some .int) ({ frames := 2, cells := 1, slots := 8, locals := 48 } : Room) (fun U Hx => Hx.size = sz ∧ SW D cI cQ b N T R U Hx) (SW D cI cQ b (nGo N (sPr N) R T) T R) (fun q => inG (10 + T) b q ∨ sz ≤ q) [.ref (b 0)] (some (.int (nGc N (sPr N) R T))) 1 8 := by
  refine Wr.of (by decide) (Nat.le_of_ble_eq_true rfl) ?_
  intro p e s m args below meth c ls hC hr hlocks hN hS hl
  obtain ⟨hsz, hN⟩ := hN
  have hx := hC.1
  have hb := hC.2.1
  have hA : ∀ q, inG (10 + T) b q → (fun q => inG (10 + T) b q ∨ sz ≤ q) q := fun _ h => Or.inl h
  have hA1 : ∀ q, s.heap.size ≤ q → (fun q => inG (10 + T) b q ∨ sz ≤ q) q := fun q h => Or.inr (hsz ▸ h)
  have hl : lv_has ls 6 [(0, .ref (b 0))] := hl
  refine lv_iconst (v := 0) hx hb dX1_pass_0 (by decide) ?_
  refine lv_istore_n (lv' := [(1, .int (0)), (0, .ref (b 0))]) hx hb dX1_pass_1 rfl hl (by decide) rfl (fun ls hl => ?_)
  refine lv_aload_n hx hb dX1_pass_2 rfl (lv_at hl 1 rfl) ?_
  refine gX1_towers hC hN dX1_pass_3 ?_
  refine nS_towers hC hN dX1_pass_6 ?_
  refine nwG T hC hN.1.1 rfl (by omega) hS (Nat.le_of_ble_eq_true rfl) (by show _ ≤ 8; omega) dX1_pass_7 (fun H hG hS hz hf => ?_)
  have hW : PW D cI cQ b T R s.heap.size T (fpre (sPr N) 0) (N) s H := ⟨hN.kept (fun k hk => hf _ (hN.1.lt k hk)), by rw [← fpre_0]; exact hG, fun k hk => Nat.ne_of_lt (hN.1.lt k hk)⟩
  have hN := hW.1
  refine lv_astore_n (lv' := [(2, .ref (s.heap.size)), (1, .int (0)), (0, .ref (b 0))]) hx hb dX1_pass_9 rfl hl (by decide) rfl (fun ls hl => ?_)
  refine lv_iconst (v := 0) hx hb dX1_pass_10 (by decide) ?_
  refine lv_istore_n (lv' := [(3, .int (0)), (2, .ref (s.heap.size)), (1, .int (0)), (0, .ref (b 0))]) hx hb dX1_pass_11 rfl hl (by decide) rfl (fun ls hl => ?_)
  refine loopU (P := fun i => ∀ (H : Heap) (locs : List Loc), PW D cI cQ b T R s.heap.size T (fpre (sPr N) i) (N) s H → va_S (fun q => inG (10 + T) b q ∨ sz ≤ q) s.heap H locs → ∀ ls : Array Slot, lv_has ls 6 [(3, .int (nI i)), (1, .int (0)), (0, .ref (b 0)), (2, .ref (s.heap.size))] → W p l e ({ frames := 2, cells := 1, slots := 8, locals := 48 } : Room) s m args below meth c H locs (0 + 1) (0 + T) (MQ below (qW (some (.int (nGc N (sPr N) R T))) (SW D cI cQ b (nGo N (sPr N) R T) T R) (fun q => inG (10 + T) b q ∨ sz ≤ q)) args s 1 8 (fun q => inG (10 + T) b q ∨ sz ≤ q)) (F0 m 12 ls [])) (T) ?_ ?_ 0 (by omega) H [] hW hS ls (by first | exact lv_sub hl [0, 2, 3, 1] rfl | (simpa using lv_sub hl [0, 2, 3, 1] rfl))
  · intro H locs hW hS ls hl
    have hN := hW.1
    refine lv_iload_n hx hb dX1_pass_12 rfl (lv_at hl 0 rfl) ?_
    refine lv_aload_n hx hb dX1_pass_13 rfl (lv_at hl 2 rfl) ?_
    refine gX1_towers hC hN dX1_pass_14 ?_
    refine nS_towers hC hN dX1_pass_17 ?_
    refine jge (i := T) (j := T) (tgt := 35) hC dX1_pass_18 (by decide) rfl rfl (by omega) (by omega) (fun c1 => ?_) (fun c1 => ?_)
    · refine lv_aload_n hx hb dX1_pass_35 rfl (lv_at hl 2 rfl) ?_
      refine lv_dup hx hb dX1_pass_36 rfl ?_
      refine gX1_second hC hN rfl dX1_pass_37 ?_
      refine lv_iconst (v := 1) hx hb dX1_pass_40 (by decide) ?_
      refine lv_iadd hx hb dX1_pass_41 ?_
      refine qX1_second hC hW hS hA dX1_pass_42 (fun H locs hW hS => ?_)
      have hN := hW.1
      refine lv_iconst (v := 0) hx hb dX1_pass_45 (by decide) ?_
      refine lv_istore_n (lv' := [(3, .int (0)), (1, .int (0)), (0, .ref (b 0)), (2, .ref (s.heap.size))]) hx hb dX1_pass_46 rfl hl (by decide) rfl (fun ls hl => ?_)
      refine loopU (P := fun i => ∀ (H : Heap) (locs : List Loc), PW D cI cQ b T R s.heap.size T (fpre (sPr N) T) ((nGo N (sPr N) R i)) s H → va_S (fun q => inG (10 + T) b q ∨ sz ≤ q) s.heap H locs → ∀ ls : Array Slot, lv_has ls 6 [(3, .int (nI i)), (1, .int (nGc N (sPr N) R i)), (0, .ref (b 0)), (2, .ref (s.heap.size))] → W p l e ({ frames := 2, cells := 1, slots := 8, locals := 48 } : Room) s m args below meth c H locs (0 + 1) (0 + T) (MQ below (qW (some (.int (nGc N (sPr N) R T))) (SW D cI cQ b (nGo N (sPr N) R T) T R) (fun q => inG (10 + T) b q ∨ sz ≤ q)) args s 1 8 (fun q => inG (10 + T) b q ∨ sz ≤ q)) (F0 m 47 ls [])) (T) ?_ ?_ 0 (by omega) H locs hW hS ls (by first | exact lv_sub hl [0, 1, 2, 3] rfl | (simpa using lv_sub hl [0, 1, 2, 3] rfl))
      · intro H locs hW hS ls hl
        have hN := hW.1
        refine lv_iload_n hx hb dX1_pass_47 rfl (lv_at hl 0 rfl) ?_
        refine lv_aload_n hx hb dX1_pass_48 rfl (lv_at hl 2 rfl) ?_
        refine gX1_towers hC hN dX1_pass_49 ?_
        refine nS_towers hC hN dX1_pass_52 ?_
        refine jge (i := T) (j := T) (tgt := 166) hC dX1_pass_53 (by decide) rfl rfl (by omega) (by omega) (fun c2 => ?_) (fun c2 => ?_)
        · refine lv_iload_n hx hb dX1_pass_166 rfl (lv_at hl 1 rfl) ?_
          refine W.widen (k := 1) (n := 8) (by omega) (by omega) ?_
          exact wr_i hC hr hlocks mov_S (hW.1) hS dX1_pass_167 (by rfl)
        · exfalso; omega
      · intro i hi ih H locs hW hS ls hl
        have hN := hW.1
        have hnz : ¬ nGo N (sPr N) R i (20 + i) 1 = 0 := by rw [nGo_1 (by omega) (by omega) (by omega) hR6 (by omega)]; exact hP i hi
        refine lv_iload_n hx hb dX1_pass_47 rfl (lv_at hl 0 rfl) ?_
        refine lv_aload_n hx hb dX1_pass_48 rfl (lv_at hl 2 rfl) ?_
        refine gX1_towers hC hN dX1_pass_49 ?_
        refine nS_towers hC hN dX1_pass_52 ?_
        refine jge (i := i) (j := T) (tgt := 166) hC dX1_pass_53 (by decide) rfl rfl (by omega) (by omega) (fun c3 => ?_) (fun c3 => ?_)
        · exfalso; omega
        · refine lv_aload_n hx hb dX1_pass_56 rfl (lv_at hl 2 rfl) ?_
          refine gX1_towers hC hN dX1_pass_57 ?_
          refine lv_iload_n hx hb dX1_pass_60 rfl (lv_at hl 0 rfl) ?_
          refine lS_tw (i) hC hN rfl (by omega) (by omega) dX1_pass_61 ?_
          refine lv_astore (lv' := [(4, .ref (b (10 + i))), (3, .int (nI i)), (1, .int (nGc N (sPr N) R i)), (0, .ref (b 0)), (2, .ref (s.heap.size))]) hx hb dX1_pass_62 hl (by decide) rfl (fun ls hl => ?_)
          refine lv_aload hx hb dX1_pass_64 (lv_at hl 0 rfl) ?_
          refine lv_iconst (v := 3) hx hb dX1_pass_66 (by decide) ?_
          refine lv_dup2_11 hx hb dX1_pass_67 rfl rfl ?_
          refine lS_row (i) (3) hC hN (by omega) rfl (by omega) rfl dX1_pass_68 ?_
          refine lv_iconst (v := 1) hx hb dX1_pass_69 (by decide) ?_
          refine lv_iadd hx hb dX1_pass_70 ?_
          refine sP_row (i) (3) hC hW (by omega) rfl (by omega) hS hA dX1_pass_71 (fun H locs hW hS => ?_)
          have hN := hW.1
          refine lv_aload_n hx hb dX1_pass_72 rfl (lv_at hl 3 rfl) ?_
          refine gX1_second (v := ((nGo N (sPr N) R i)) 6 0) hC hN (by rw [up2_ne _ _ (by omega)]) dX1_pass_73 ?_
          refine lv_aload hx hb dX1_pass_76 (lv_at hl 0 rfl) ?_
          refine lv_iconst (v := 2) hx hb dX1_pass_78 (by decide) ?_
          refine lS_row (v := ((nGo N (sPr N) R i)) (20 + i) 2) (i) (2) hC hN (by omega) rfl (by omega) (by rw [up2_ne _ _ (by omega)]) dX1_pass_79 ?_
          refine lv_isub hx hb dX1_pass_80 ?_
          refine lv_aload hx hb dX1_pass_81 (lv_at hl 0 rfl) ?_
          refine lv_iconst (v := 1) hx hb dX1_pass_83 (by decide) ?_
          refine lS_row (v := ((nGo N (sPr N) R i)) (20 + i) 1) (i) (1) hC hN (by omega) rfl (by omega) (by rw [up2_ne _ _ (by omega)]) dX1_pass_84 ?_
          refine lv_irem hx hb dX1_pass_85 (hnz) ?_
          refine lv_if_eq (tgt := 92) hx hb dX1_pass_86 (by decide) (fun c4 => ?_) (fun c4 => ?_)
          · refine lv_aload hx hb dX1_pass_92 (lv_at hl 0 rfl) ?_
            refine lv_iconst (v := 3) hx hb dX1_pass_94 (by decide) ?_
            refine lv_iconst (v := 0) hx hb dX1_pass_95 (by decide) ?_
            refine sP_row (i) (3) hC hW (by omega) rfl (by omega) hS hA dX1_pass_96 (fun H locs hW hS => ?_)
            have hN := hW.1
            refine lv_aload hx hb dX1_pass_97 (lv_at hl 0 rfl) ?_
            refine lv_iconst (v := 4) hx hb dX1_pass_99 (by decide) ?_
            refine lv_dup2_11 hx hb dX1_pass_100 rfl rfl ?_
            refine lS_row (v := ((nGo N (sPr N) R i)) (20 + i) 4) (i) (4) hC hN (by omega) rfl (by omega) (by rw [up2_ne _ _ (by omega), up2_ne _ _ (by omega)]) dX1_pass_101 ?_
            refine lv_iconst (v := 1) hx hb dX1_pass_102 (by decide) ?_
            refine lv_iadd hx hb dX1_pass_103 ?_
            refine sP_row (i) (4) hC hW (by omega) rfl (by omega) hS hA dX1_pass_104 (fun H locs hW hS => ?_)
            have hN := hW.1
            refine lv_iinc (v := (nGc N (sPr N) R i) + 1) (lv' := [(1, .int ((nGc N (sPr N) R i) + 1)), (4, .ref (b (10 + i))), (3, .int (nI i)), (0, .ref (b 0)), (2, .ref (s.heap.size))]) hx hb dX1_pass_105 hl (k := 2) rfl (rfl) (by decide) rfl (fun ls hl => ?_)
            refine lv_iconst (v := 0) hx hb dX1_pass_108 (by decide) ?_
            refine lv_istore (lv' := [(5, .int (0)), (1, .int ((nGc N (sPr N) R i) + 1)), (4, .ref (b (10 + i))), (3, .int (nI i)), (0, .ref (b 0)), (2, .ref (s.heap.size))]) hx hb dX1_pass_109 hl (by decide) rfl (fun ls hl => ?_)
            refine loopU (P := fun r => ∀ (H : Heap) (locs : List Loc), PW D cI cQ b T R s.heap.size T (fpre (sPr N) T) ((bSt1 (nZs (nGo N (sPr N) R i) i) (sPr N i) i r)) s H → va_S (fun q => inG (10 + T) b q ∨ sz ≤ q) s.heap H locs → ∀ ls : Array Slot, lv_has ls 6 [(5, .int (nI r)), (1, .int (nGc N (sPr N) R i + 1)), (3, .int (nI i)), (0, .ref (b 0)), (2, .ref (s.heap.size))] → W p l e ({ frames := 2, cells := 1, slots := 8, locals := 48 } : Room) s m args below meth c H locs (0 + 1) (0 + T) (MQ below (qW (some (.int (nGc N (sPr N) R T))) (SW D cI cQ b (nGo N (sPr N) R T) T R) (fun q => inG (10 + T) b q ∨ sz ≤ q)) args s 1 8 (fun q => inG (10 + T) b q ∨ sz ≤ q)) (F0 m 111 ls [])) (R) ?_ ?_ 0 (by omega) H locs hW hS ls (by first | exact lv_sub hl [0, 1, 3, 4, 5] rfl | (simpa using lv_sub hl [0, 1, 3, 4, 5] rfl))
            · intro H locs hW hS ls hl
              have hN := hW.1
              refine lv_iload hx hb dX1_pass_111 (lv_at hl 0 rfl) ?_
              refine lv_aload_n hx hb dX1_pass_113 rfl (lv_at hl 3 rfl) ?_
              refine gX1_purses hC hN dX1_pass_114 ?_
              refine nS_purses hC hN dX1_pass_117 ?_
              refine jge (i := R) (j := R) (tgt := 160) hC dX1_pass_118 (by decide) rfl rfl (by omega) (by omega) (fun c5 => ?_) (fun c5 => ?_)
              · refine lv_iinc (v := nI (i + 1)) (lv' := [(3, .int (nI (i + 1))), (5, .int (nI R)), (1, .int (nGc N (sPr N) R i + 1)), (0, .ref (b 0)), (2, .ref (s.heap.size))]) hx hb dX1_pass_160 hl (k := 2) rfl (ninc i) (by decide) rfl (fun ls hl => ?_)
                refine lv_goto (tgt := 47) hx hb dX1_pass_163 (by decide) ?_
                have e6 : nGc N (sPr N) R (i + 1) = nGc N (sPr N) R i + 1 := by rw [nGc_s c4] <;> rfl
                exact ih H locs (by rw [nGo_s c4]; exact hW) hS ls (by rw [e6]; exact lv_sub hl [0, 2, 3, 4] rfl)
              · exfalso; omega
            · intro r hr rh H locs hW hS ls hl
              have hN := hW.1
              refine lv_iload hx hb dX1_pass_111 (lv_at hl 0 rfl) ?_
              refine lv_aload_n hx hb dX1_pass_113 rfl (lv_at hl 3 rfl) ?_
              refine gX1_purses hC hN dX1_pass_114 ?_
              refine nS_purses hC hN dX1_pass_117 ?_
              refine jge (i := r) (j := R) (tgt := 160) hC dX1_pass_118 (by decide) rfl rfl (by omega) (by omega) (fun c7 => ?_) (fun c7 => ?_)
              · exfalso; omega
              · refine lv_aload_n hx hb dX1_pass_121 rfl (lv_at hl 3 rfl) ?_
                refine gX1_purses hC hN dX1_pass_122 ?_
                refine lv_iload hx hb dX1_pass_125 (lv_at hl 0 rfl) ?_
                refine lv_dup2_11 hx hb dX1_pass_127 rfl rfl ?_
                refine lS_pur (r) hC hN rfl (by omega) (by omega) rfl dX1_pass_128 ?_
                refine lv_aload_n hx hb dX1_pass_129 rfl (lv_at hl 4 rfl) ?_
                refine lv_iload_n hx hb dX1_pass_130 rfl (lv_at hl 2 rfl) ?_
                refine ldP (v := sPr N i) (i) hC hW (by omega) rfl (by omega) (fpre_at (by omega)) dX1_pass_131 ?_
                refine lv_aload_n hx hb dX1_pass_132 rfl (lv_at hl 3 rfl) ?_
                refine gX1_held hC hN dX1_pass_133 ?_
                refine lv_iload hx hb dX1_pass_136 (lv_at hl 0 rfl) ?_
                refine lS_hr (r) hC hN rfl (by omega) dX1_pass_138 ?_
                refine lv_iload_n hx hb dX1_pass_139 rfl (lv_at hl 2 rfl) ?_
                refine lS_held (r) (i) hC hN (by omega) rfl (by omega) rfl dX1_pass_140 ?_
                refine lv_imul hx hb dX1_pass_141 ?_
                refine lv_iadd hx hb dX1_pass_142 ?_
                refine sP_pur (r) hC hW (by omega) rfl (by omega) hS hA dX1_pass_143 (fun H locs hW hS => ?_)
                have hN := hW.1
                refine lv_aload_n hx hb dX1_pass_144 rfl (lv_at hl 3 rfl) ?_
                refine gX1_held hC hN dX1_pass_145 ?_
                refine lv_iload hx hb dX1_pass_148 (lv_at hl 0 rfl) ?_
                refine lS_hr (r) hC hN rfl (by omega) dX1_pass_150 ?_
                refine lv_iload_n hx hb dX1_pass_151 rfl (lv_at hl 2 rfl) ?_
                refine lv_iconst (v := 0) hx hb dX1_pass_152 (by decide) ?_
                refine sP_held (r) (i) hC hW (by omega) rfl (by omega) hS hA dX1_pass_153 (fun H locs hW hS => ?_)
                have hN := hW.1
                refine lv_iinc (v := nI (r + 1)) (lv' := [(5, .int (nI (r + 1))), (1, .int (nGc N (sPr N) R i + 1)), (3, .int (nI i)), (0, .ref (b 0)), (2, .ref (s.heap.size))]) hx hb dX1_pass_154 hl (k := 0) rfl (ninc r) (by decide) rfl (fun ls hl => ?_)
                refine lv_goto (tgt := 111) hx hb dX1_pass_157 (by decide) ?_
                exact rh H locs (hW) hS ls (lv_sub hl [0, 1, 2, 3, 4] rfl)
          · refine lv_goto (tgt := 160) hx hb dX1_pass_89 (by decide) ?_
            refine lv_iinc (v := nI (i + 1)) (lv' := [(3, .int (nI (i + 1))), (4, .ref (b (10 + i))), (1, .int (nGc N (sPr N) R i)), (0, .ref (b 0)), (2, .ref (s.heap.size))]) hx hb dX1_pass_160 hl (k := 1) rfl (ninc i) (by decide) rfl (fun ls hl => ?_)
            refine lv_goto (tgt := 47) hx hb dX1_pass_163 (by decide) ?_
            have e8 : nGc N (sPr N) R (i + 1) = nGc N (sPr N) R i := by rw [nGc_k c4] <;> rfl
            exact ih H locs (by rw [nGo_k c4]; exact hW) hS ls (by rw [e8]; exact lv_sub hl [0, 2, 3, 4] rfl)
    · exfalso; omega
  · intro i hi ih H locs hW hS ls hl
    have hN := hW.1
    refine lv_iload_n hx hb dX1_pass_12 rfl (lv_at hl 0 rfl) ?_
    refine lv_aload_n hx hb dX1_pass_13 rfl (lv_at hl 2 rfl) ?_
    refine gX1_towers hC hN dX1_pass_14 ?_
    refine nS_towers hC hN dX1_pass_17 ?_
    refine jge (i := i) (j := T) (tgt := 35) hC dX1_pass_18 (by decide) rfl rfl (by omega) (by omega) (fun c9 => ?_) (fun c9 => ?_)
    · exfalso; omega
    · refine lv_aload_n hx hb dX1_pass_21 rfl (lv_at hl 3 rfl) ?_
      refine lv_iload_n hx hb dX1_pass_22 rfl (lv_at hl 0 rfl) ?_
      refine lv_aload_n hx hb dX1_pass_23 rfl (lv_at hl 2 rfl) ?_
      refine lv_iload_n hx hb dX1_pass_24 rfl (lv_at hl 0 rfl) ?_
      refine k1_X1_price hC (c_X1_price l D cI cQ b N hT8 hR6 (t := i) (by omega)) hN rfl ⟨rfl, rfl⟩ ⟨Nat.le_of_ble_eq_true rfl, Nat.le_of_ble_eq_true rfl⟩ ⟨by show 0 + 1 ≤ 1; omega, by show 0 + T ≤ 8; omega⟩ hl.1 rfl (Nat.le_of_ble_eq_true rfl) dX1_pass_25 ?_
      refine stP (i) hC hW (by omega) rfl (by omega) hS (hA1 _ (Nat.le_refl _)) dX1_pass_28 (fun H locs hW hS => ?_)
      have hN := hW.1
      refine lv_iinc (v := nI (i + 1)) (lv' := [(3, .int (nI (i + 1))), (1, .int (0)), (0, .ref (b 0)), (2, .ref (s.heap.size))]) hx hb dX1_pass_29 hl (k := 0) rfl (ninc i) (by decide) rfl (fun ls hl => ?_)
      refine lv_goto (tgt := 12) hx hb dX1_pass_32 (by decide) ?_
      exact ih H locs (by rw [← fpre_up]; exact hW) hS ls (lv_sub hl [0, 1, 2, 3] rfl)
def nPa (N : bS) (T R : Nat) : Nat → bS
  | 0 => N
  | i + 1 => nGo (nPa N T R i) (sPr (nPa N T R i)) R T
def nPc (N : bS) (T R : Nat) : Nat → Int32
  | 0 => 0
  | i + 1 => nPc N T R i + nGc (nPa N T R i) (sPr (nPa N T R i)) R T
theorem nPa_1 {N : bS} {T R t j : Nat} (hR : R ≤ 6) (hj : j < 3) : ∀ i : Nat, nPa N T R i (20 + t) j = N (20 + t) j
  | 0 => rfl
  | i + 1 => (nGo_1 (by omega) (by omega) (by omega) hR hj T).trans (nPa_1 hR hj i)
theorem nPa_P {N : bS} {T R : Nat} (hR : R ≤ 6) (hP : ∀ t, t < T → ¬ N (20 + t) 1 = 0) (i : Nat) : ∀ t, t < T → ¬ nPa N T R i (20 + t) 1 = 0 := fun t ht => by rw [nPa_1 hR (by omega) i]; exact hP t ht
set_option maxHeartbeats 4000000 in
set_option maxRecDepth 100000 in
theorem c_X1_behind (l : Launch) (D : va_G) (cI cQ : ClassId) (b : Nat → Nat) (N : bS) {T R : Nat} (hT8 : T ≤ 8) (hR6 : R ≤ 6) {k : Nat} {sz : Nat} (hk60 : k ≤ 60) (hP : ∀ t, t < T → ¬ N (20 + t) 1 = 0) : Wr l yX1_behind cX1_behind 4 (some .int) ({ frames := 3, cells := 60, slots := 480, locals := 73 } : Room) (fun U Hx => Hx.size = sz ∧ SW D cI cQ b N T R U Hx) (SW D cI cQ b (nPa N T R k) T R) (fun q => inG (10 + T) b q ∨ sz ≤ q) [.ref (b 0), .int (nI k)] (some (.int (nPc N T R k))) 60 480 := by
  refine Wr.of (by decide) (Nat.le_of_ble_eq_true rfl) ?_
  intro p e s m args below meth c ls hC hr hlocks hN hS hl
  obtain ⟨hsz, hN⟩ := hN
  have hx := hC.1
  have hb := hC.2.1
  have hA : ∀ q, inG (10 + T) b q → (fun q => inG (10 + T) b q ∨ sz ≤ q) q := fun _ h => Or.inl h
  have hA1 : ∀ q, s.heap.size ≤ q → (fun q => inG (10 + T) b q ∨ sz ≤ q) q := fun q h => Or.inr (hsz ▸ h)
  have hl : lv_has ls 4 [(0, .ref (b 0)), (1, .int (nI k))] := hl
  refine lv_iconst (v := 0) hx hb dX1_behind_0 (by decide) ?_
  refine lv_istore_n (lv' := [(2, .int (0)), (0, .ref (b 0)), (1, .int (nI k))]) hx hb dX1_behind_1 rfl hl (by decide) rfl (fun ls hl => ?_)
  refine lv_iconst (v := 0) hx hb dX1_behind_2 (by decide) ?_
  refine lv_istore_n (lv' := [(3, .int (0)), (2, .int (0)), (0, .ref (b 0)), (1, .int (nI k))]) hx hb dX1_behind_3 rfl hl (by decide) rfl (fun ls hl => ?_)
  refine loopU (P := fun i => ∀ (H : Heap) (locs : List Loc), SW D cI cQ b (nPa N T R i) T R s H → va_S (fun q => inG (10 + T) b q ∨ sz ≤ q) s.heap H locs → ∀ ls : Array Slot, lv_has ls 4 [(3, .int (nI i)), (2, .int (nPc N T R i)), (0, .ref (b 0)), (1, .int (nI k))] → W p l e ({ frames := 3, cells := 60, slots := 480, locals := 73 } : Room) s m args below meth c H locs (i) (8 * i) (MQ below (qW (some (.int (nPc N T R k))) (SW D cI cQ b (nPa N T R k) T R) (fun q => inG (10 + T) b q ∨ sz ≤ q)) args s 60 480 (fun q => inG (10 + T) b q ∨ sz ≤ q)) (F0 m 4 ls [])) (k) ?_ ?_ 0 (by omega) s.heap [] hN hS ls (by first | exact lv_sub hl [0, 1, 2, 3] rfl | (simpa using lv_sub hl [0, 1, 2, 3] rfl))
  · intro H locs hN hS ls hl
    refine lv_iload_n hx hb dX1_behind_4 rfl (lv_at hl 0 rfl) ?_
    refine lv_iload_n hx hb dX1_behind_5 rfl (lv_at hl 3 rfl) ?_
    refine jge (i := k) (j := k) (tgt := 22) hC dX1_behind_6 (by decide) rfl rfl (by omega) (by omega) (fun c1 => ?_) (fun c1 => ?_)
    · refine lv_iload_n hx hb dX1_behind_22 rfl (lv_at hl 1 rfl) ?_
      refine W.widen (k := 60) (n := 480) (by omega) (by omega) ?_
      exact wr_i hC hr hlocks mov_S (hN) hS dX1_behind_23 (by rfl)
    · exfalso; omega
  · intro i hi ih H locs hN hS ls hl
    refine lv_iload_n hx hb dX1_behind_4 rfl (lv_at hl 0 rfl) ?_
    refine lv_iload_n hx hb dX1_behind_5 rfl (lv_at hl 3 rfl) ?_
    refine jge (i := i) (j := k) (tgt := 22) hC dX1_behind_6 (by decide) rfl rfl (by omega) (by omega) (fun c2 => ?_) (fun c2 => ?_)
    · exfalso; omega
    · refine lv_iload_n hx hb dX1_behind_9 rfl (lv_at hl 1 rfl) ?_
      refine lv_aload_n hx hb dX1_behind_10 rfl (lv_at hl 2 rfl) ?_
      refine kz1_X1_pass hC (c_X1_pass l D cI cQ b (nPa N T R i) hT8 hR6 (nPa_P hR6 hP i)) mov_S hN rfl ⟨rfl, rfl⟩ ⟨Nat.le_of_ble_eq_true rfl, Nat.le_of_ble_eq_true rfl⟩ ⟨by show _ ≤ 60; omega, by show _ ≤ 480; omega⟩ hS hA hA1 hl.1 rfl (Nat.le_of_ble_eq_true rfl) dX1_behind_11 (fun H locs hN hS hz hf => ?_)
      refine lv_iadd hx hb dX1_behind_14 ?_
      refine lv_istore_n (lv' := [(2, .int ((nPc N T R i) + (nGc (nPa N T R i) (sPr (nPa N T R i)) R T))), (3, .int (nI i)), (0, .ref (b 0)), (1, .int (nI k))]) hx hb dX1_behind_15 rfl hl (by decide) rfl (fun ls hl => ?_)
      refine lv_iinc (v := nI (i + 1)) (lv' := [(3, .int (nI (i + 1))), (2, .int ((nPc N T R i) + (nGc (nPa N T R i) (sPr (nPa N T R i)) R T))), (0, .ref (b 0)), (1, .int (nI k))]) hx hb dX1_behind_16 hl (k := 1) rfl (ninc i) (by decide) rfl (fun ls hl => ?_)
      refine lv_goto (tgt := 4) hx hb dX1_behind_19 (by decide) ?_
      exact ih H locs (hN) hS ls (lv_sub hl [0, 1, 2, 3] rfl)

/-! ===== the two constructors ===== -/
theorem D_one {A : Nat → Prop} {a : Nat} {e : va_E} (h : A a) : va_D A [(a, e)] := by
  refine ⟨fun i j p q hi hj _ => ?_, fun k q hk => ?_⟩
  · have h1 := (List.getElem?_eq_some_iff.mp hi).1
    have h2 := (List.getElem?_eq_some_iff.mp hj).1
    simp only [List.length_cons, List.length_nil] at h1 h2
    omega
  · have h1 := (List.getElem?_eq_some_iff.mp hk).1
    simp only [List.length_cons, List.length_nil] at h1
    have h2 : k = 0 := by omega
    subst h2
    cases hk
    exact h
theorem nm_eq {s : State} {c0 c1 : ClassId} (h0 : va_RA s c0 .int) (h1 : va_RA s c1 .int) : c0 = c1 := Option.some.inj ((va_nm_int h0).symm.trans (va_nm_int h1))
theorem AOA_warm {s U : State} (hW : s.vm.Alike U.vm) (h : va_AOA .int s) : va_AOA .int U := by
  have h1 : (Cond.arrayOver (.array .int)).before #[] (s.setVm U.vm) = true := by rw [Cond.arrayOver_setVmC hW]; exact h
  exact h1
theorem vwB_get {cI cQ : ClassId} {a : Nat → Nat} {S : bS} {k : Nat} (hk : k < 14) : ∃ e : va_E, (vwB cI cQ a S)[(k + 1) % 14]? = some (a k, e) := by
  have hl : ((k + 1) % 14) < (vwB cI cQ a S).length := by show _ < 14; omega
  have h1 := List.getElem?_eq_getElem hl
  have h2 := (vwB_at ((k + 1) % 14) _ h1).2
  rw [show ((k + 1) % 14 + 13) % 14 = k by omega] at h2
  exact ⟨((vwB cI cQ a S)[(k + 1) % 14]).2, by rw [h1, ← h2]⟩
theorem vwM_get {cI : ClassId} {b : Nat → Nat} {N : bS} {k : Nat} (hk : k < 6) : ∃ e : va_E, (vwM cI b N)[(k + 1) % 6]? = some (b k, e) := by
  have hl : ((k + 1) % 6) < (vwM cI b N).length := by show _ < 6; omega
  have h1 := List.getElem?_eq_getElem hl
  have h2 := (vwM_at ((k + 1) % 6) _ h1).2
  rw [show ((k + 1) % 6 + 5) % 6 = k by omega] at h2
  exact ⟨((vwM cI b N)[(k + 1) % 6]).2, by rw [h1, ← h2]⟩
theorem BW_of {D : va_G} {cI cQ : ClassId} {a : Nat → Nat} {S : bS} {U : State} {H : Heap} {A : Nat → Prop} (hK : va_K D vwCl (tyB cI cQ) U) (hP : va_P D vwCl (vwB cI cQ a S) H) (hD : va_D A (vwB cI cQ a S)) : BW D cI cQ a S U H ∧ ∀ k, k < 14 → A (a k) := by
  refine ⟨⟨hK, hP, fun i j hi hj hij => ?_⟩, fun k hk => ?_⟩
  · obtain ⟨e1, h1⟩ := vwB_get (cI := cI) (cQ := cQ) (a := a) (S := S) hi
    obtain ⟨e2, h2⟩ := vwB_get (cI := cI) (cQ := cQ) (a := a) (S := S) hj
    have := hD.1 _ _ _ _ h1 h2 hij
    omega
  · obtain ⟨e1, h1⟩ := vwB_get (cI := cI) (cQ := cQ) (a := a) (S := S) hk
    exact hD.2 _ _ h1
theorem MW_of {D : va_G} {cI : ClassId} {b : Nat → Nat} {N : bS} {U : State} {H : Heap} {A : Nat → Prop} (hK : va_K D vwCl [(cI, .int)] U) (hP : va_P D vwCl (vwM cI b N) H) (hD : va_D A (vwM cI b N)) : MW D cI b N U H ∧ ∀ k, k < 6 → A (b k) := by
  refine ⟨⟨hK, hP, fun i j hi hj hij => ?_⟩, fun k hk => ?_⟩
  · obtain ⟨e1, h1⟩ := vwM_get (cI := cI) (b := b) (N := N) hi
    obtain ⟨e2, h2⟩ := vwM_get (cI := cI) (b := b) (N := N) hj
    have := hD.1 _ _ _ _ h1 h2 hij
    omega
  · obtain ⟨e1, h1⟩ := vwM_get (cI := cI) (b := b) (N := N) hk
    exact hD.2 _ _ h1
theorem pl_const {f : Nat → va_E} {L : List Nat} {e : va_E} : va_pl ([] ++ L) (vr_up f L e) = L.map (fun x => (x, e)) := by
  unfold va_pl
  rw [List.nil_append]
  apply List.map_congr_left
  intro x hx
  rw [vr_up_in hx]
def aof (q0 q1 q2 q3 q4 q5 q6 h0 : Nat) (r : Nat → Nat) : Nat → Nat
  | 0 => q0
  | 1 => q1
  | 2 => q2
  | 3 => q3
  | 4 => q4
  | 5 => q5
  | 6 => q6
  | 7 => r 0
  | 8 => r 1
  | 9 => r 2
  | 10 => r 3
  | 11 => r 4
  | 12 => r 5
  | _ => h0
theorem aof_r {q0 q1 q2 q3 q4 q5 q6 h0 : Nat} {r : Nat → Nat} : (fun i => if i < 6 then some (aof q0 q1 q2 q3 q4 q5 q6 h0 r (7 + i)) else none) = (fun i => if i < 6 then some (r i) else none : Nat → Option Nat) := by
  funext i
  match i with
  | 0 => rfl
  | 1 => rfl
  | 2 => rfl
  | 3 => rfl
  | 4 => rfl
  | 5 => rfl
  | i + 6 => rw [if_neg (by omega), if_neg (by omega)]
def bof (q0 q1 q2 q3 q4 h0 : Nat) : Nat → Nat
  | 0 => q0
  | 1 => q1
  | 2 => q2
  | 3 => q3
  | 4 => q4
  | _ => h0
def iP_X1 (D : va_G) (h0 sz : Nat) (U : State) : Prop := U.heap.size = sz ∧ va_K D vwCl [] U ∧ va_P D vwCl [(h0, .inr (1, [.int 0, .int 0, .int 0, .null, .null, .null, .null, .null]))] U.heap
def iQ_X1 (D : va_G) (h0 sz : Nat) : Array Value → State → Outcome → State → Prop := fun _ st oc t => oc = .returned none ∧ (∃ (cI : ClassId) (b : Nat → Nat), b 5 = h0 ∧ (∀ k, k < 5 → sz ≤ b k) ∧ MW D cI b (fun _ _ => 0) t t.heap) ∧ va_F (fun q => q = h0 ∨ sz ≤ q) st t
set_option maxHeartbeats 4000000 in
set_option maxRecDepth 100000 in
theorem i_X1 (l : Launch) (D : va_G) (h0 sz : Nat) : Met l yX1_init (wq yX1_init cX1_init 1 none) ({ frames := 1, cells := 5, slots := 166, locals := 32 } : Room) (va_Pc [.ref h0] (iP_X1 D h0 sz)) (iQ_X1 D h0 sz) 5 166 (fun q => q = h0 ∨ sz ≤ q) := by
  refine Met.ofW (cc := cX1_init) (maxL := 1) (ret := none) (by decide) rfl ?_
  intro p e s m args below meth c s₁ B hml hv
  obtain ⟨rfl, hsz, hK, hP⟩ := hv
  subst hsz
  have hC : CallFix p m c cX1_init 1 s (List.toArray [.ref h0]) wsL_law RX1 := ⟨B.exec, B.bytes, hml, findClass_of_methodNamed B.named, fun w h => atoms_spec (ws := wq yX1_init cX1_init 1 none) B.pre w (List.mem_cons_of_mem _ h)⟩
  have hin : meth.name = "<init>" := (name_of_methodNamed B.named B.method).1
  have hr := B.returns
  have hlocks := B.notSynchronized
  have hx := hC.1
  have hb := hC.2.1
  have hts := hC.2.2.2.2
  have hA : ∀ q : Nat, s.heap.size ≤ q → (fun q => q = h0 ∨ s.heap.size ≤ q) q := fun q h => Or.inr h
  have hS : va_S (fun q => q = h0 ∨ s.heap.size ≤ q) s.heap s.heap [] := va_S.rf
  have hD : va_D (fun q => q = h0 ∨ s.heap.size ≤ q) [(h0, .inr (1, [.int 0, .int 0, .int 0, .null, .null, .null, .null, .null]))] := D_one (Or.inl rfl)
  have hl := lv_entry ([.ref h0]) (n := 1) (Nat.le_of_ble_eq_true rfl)
  rw [lg_entry_eq]
  generalize (lg_sl ([.ref h0]) ++ List.replicate (1 - (lg_sl ([.ref h0])).length) Slot.unset).toArray = ls at hl ⊢
  have hl : lv_has ls 1 [(0, .ref h0)] := hl
  refine lv_aload_n hx hb dX1_init_0 rfl (lv_at hl 0 rfl) ?_
  refine W.objInit hx hb hC.2.2.2.1 (hts _ (List.mem_of_getElem? (i := 25) (by decide +kernel))) (hts _ (List.mem_of_getElem? (i := 11) (by decide +kernel))) (hts _ (List.mem_of_getElem? (i := 12) (by decide +kernel))) rfl (by rw [hml]; exact hl.1) rfl dX1_init_1 (Nat.le_of_ble_eq_true rfl) (Nat.le_of_ble_eq_true rfl) ?_
  refine W.eq (g2 := F0 m 4 ls []) rfl ?_
  refine lv_aload_n hx hb dX1_init_4 rfl (lv_at hl 0 rfl) ?_
  refine lv_bipush (v := 8) hx hb dX1_init_5 (by decide) ?_
  refine va_newa (atype := .int) (ty := .int) hx hb (hts _ (List.mem_of_getElem? (i := 13) (by decide +kernel))) rfl hK hP hD hS hA (N' := 8) (a0 := (8, .inl (fun _ => 0))) (fun _ => rfl) (by decide) (by decide) (by decide) (Nat.le_of_ble_eq_true rfl) (Nat.le_of_ble_eq_true rfl) dX1_init_7 (fun q0 c0 H hK hP hD hS => ?_)
  have hP : va_P D vwCl [(h0, .inr (1, [.int 0, .int 0, .int 0, .null, .null, .null, .null, .null])), (q0, .inl (c0, 8, .inl (fun _ => 0)))] H := hP
  have hD : va_D _ [(h0, .inr (1, [.int 0, .int 0, .int 0, .null, .null, .null, .null, .null])), (q0, .inl (c0, 8, .inl (fun _ => 0)))] := hD
  refine va_putF (D := D) (ci := 1) (v := .ref q0) (ty := .array .int) (C := RX1) (T := TX1) (N := 8) hx hb hts inlX1 tyX1 tyX1_ok nmX1 hC.2.2.2.1 hK hP hD hS 0 rfl rfl 3 (by decide) (hts _ mw_26) (fun _ h9 => h9) rfl hin rfl (by decide +kernel) rfl rfl (Nat.le_of_ble_eq_true rfl) dX1_init_9 (fun H locs hP hD hS => ?_)
  have hP : va_P D vwCl [(h0, .inr (1, [.int 0, .int 0, .int 0, .ref q0, .null, .null, .null, .null])), (q0, .inl (c0, 8, .inl (fun _ => 0)))] H := hP
  have hD : va_D _ [(h0, .inr (1, [.int 0, .int 0, .int 0, .ref q0, .null, .null, .null, .null])), (q0, .inl (c0, 8, .inl (fun _ => 0)))] := hD
  refine lv_aload_n hx hb dX1_init_12 rfl (lv_at hl 0 rfl) ?_
  refine lv_bipush (v := 8) hx hb dX1_init_13 (by decide) ?_
  refine va_newa (atype := .int) (ty := .int) hx hb (hts _ (List.mem_of_getElem? (i := 13) (by decide +kernel))) rfl hK hP hD hS hA (N' := 8) (a0 := (8, .inl (fun _ => 0))) (fun _ => rfl) (by decide) (by decide) (by decide) (Nat.le_of_ble_eq_true rfl) (Nat.le_of_ble_eq_true rfl) dX1_init_15 (fun q1 c1 H hK hP hD hS => ?_)
  have ec := nm_eq (hK.2 0 (c0, .int) rfl).2 (hK.2 1 (c1, .int) rfl).2
  subst ec
  have hP : va_P D vwCl [(h0, .inr (1, [.int 0, .int 0, .int 0, .ref q0, .null, .null, .null, .null])), (q0, .inl (c0, 8, .inl (fun _ => 0))), (q1, .inl (c0, 8, .inl (fun _ => 0)))] H := hP
  have hD : va_D _ [(h0, .inr (1, [.int 0, .int 0, .int 0, .ref q0, .null, .null, .null, .null])), (q0, .inl (c0, 8, .inl (fun _ => 0))), (q1, .inl (c0, 8, .inl (fun _ => 0)))] := hD
  refine va_putF (D := D) (ci := 1) (v := .ref q1) (ty := .array .int) (C := RX1) (T := TX1) (N := 8) hx hb hts inlX1 tyX1 tyX1_ok nmX1 hC.2.2.2.1 hK hP hD hS 0 rfl rfl 4 (by decide) (hts _ mw_27) (fun _ h9 => h9) rfl hin rfl (by decide +kernel) rfl rfl (Nat.le_of_ble_eq_true rfl) dX1_init_17 (fun H locs hP hD hS => ?_)
  have hP : va_P D vwCl [(h0, .inr (1, [.int 0, .int 0, .int 0, .ref q0, .ref q1, .null, .null, .null])), (q0, .inl (c0, 8, .inl (fun _ => 0))), (q1, .inl (c0, 8, .inl (fun _ => 0)))] H := hP
  have hD : va_D _ [(h0, .inr (1, [.int 0, .int 0, .int 0, .ref q0, .ref q1, .null, .null, .null])), (q0, .inl (c0, 8, .inl (fun _ => 0))), (q1, .inl (c0, 8, .inl (fun _ => 0)))] := hD
  refine lv_aload_n hx hb dX1_init_20 rfl (lv_at hl 0 rfl) ?_
  refine lv_bipush (v := 8) hx hb dX1_init_21 (by decide) ?_
  refine va_newa (atype := .int) (ty := .int) hx hb (hts _ (List.mem_of_getElem? (i := 13) (by decide +kernel))) rfl hK hP hD hS hA (N' := 8) (a0 := (8, .inl (fun _ => 0))) (fun _ => rfl) (by decide) (by decide) (by decide) (Nat.le_of_ble_eq_true rfl) (Nat.le_of_ble_eq_true rfl) dX1_init_23 (fun q2 c2 H hK hP hD hS => ?_)
  have ec := nm_eq (hK.2 0 (c0, .int) rfl).2 (hK.2 2 (c2, .int) rfl).2
  subst ec
  have hP : va_P D vwCl [(h0, .inr (1, [.int 0, .int 0, .int 0, .ref q0, .ref q1, .null, .null, .null])), (q0, .inl (c0, 8, .inl (fun _ => 0))), (q1, .inl (c0, 8, .inl (fun _ => 0))), (q2, .inl (c0, 8, .inl (fun _ => 0)))] H := hP
  have hD : va_D _ [(h0, .inr (1, [.int 0, .int 0, .int 0, .ref q0, .ref q1, .null, .null, .null])), (q0, .inl (c0, 8, .inl (fun _ => 0))), (q1, .inl (c0, 8, .inl (fun _ => 0))), (q2, .inl (c0, 8, .inl (fun _ => 0)))] := hD
  refine va_putF (D := D) (ci := 1) (v := .ref q2) (ty := .array .int) (C := RX1) (T := TX1) (N := 8) hx hb hts inlX1 tyX1 tyX1_ok nmX1 hC.2.2.2.1 hK hP hD hS 0 rfl rfl 5 (by decide) (hts _ mw_28) (fun _ h9 => h9) rfl hin rfl (by decide +kernel) rfl rfl (Nat.le_of_ble_eq_true rfl) dX1_init_25 (fun H locs hP hD hS => ?_)
  have hP : va_P D vwCl [(h0, .inr (1, [.int 0, .int 0, .int 0, .ref q0, .ref q1, .ref q2, .null, .null])), (q0, .inl (c0, 8, .inl (fun _ => 0))), (q1, .inl (c0, 8, .inl (fun _ => 0))), (q2, .inl (c0, 8, .inl (fun _ => 0)))] H := hP
  have hD : va_D _ [(h0, .inr (1, [.int 0, .int 0, .int 0, .ref q0, .ref q1, .ref q2, .null, .null])), (q0, .inl (c0, 8, .inl (fun _ => 0))), (q1, .inl (c0, 8, .inl (fun _ => 0))), (q2, .inl (c0, 8, .inl (fun _ => 0)))] := hD
  refine lv_aload_n hx hb dX1_init_28 rfl (lv_at hl 0 rfl) ?_
  refine lv_bipush (v := 71) hx hb dX1_init_29 (by decide) ?_
  refine va_newa (atype := .int) (ty := .int) hx hb (hts _ (List.mem_of_getElem? (i := 13) (by decide +kernel))) rfl hK hP hD hS hA (N' := 71) (a0 := (71, .inl (fun _ => 0))) (fun _ => rfl) (by decide) (by decide) (by decide) (Nat.le_of_ble_eq_true rfl) (Nat.le_of_ble_eq_true rfl) dX1_init_31 (fun q3 c3 H hK hP hD hS => ?_)
  have ec := nm_eq (hK.2 0 (c0, .int) rfl).2 (hK.2 3 (c3, .int) rfl).2
  subst ec
  have hP : va_P D vwCl [(h0, .inr (1, [.int 0, .int 0, .int 0, .ref q0, .ref q1, .ref q2, .null, .null])), (q0, .inl (c0, 8, .inl (fun _ => 0))), (q1, .inl (c0, 8, .inl (fun _ => 0))), (q2, .inl (c0, 8, .inl (fun _ => 0))), (q3, .inl (c0, 71, .inl (fun _ => 0)))] H := hP
  have hD : va_D _ [(h0, .inr (1, [.int 0, .int 0, .int 0, .ref q0, .ref q1, .ref q2, .null, .null])), (q0, .inl (c0, 8, .inl (fun _ => 0))), (q1, .inl (c0, 8, .inl (fun _ => 0))), (q2, .inl (c0, 8, .inl (fun _ => 0))), (q3, .inl (c0, 71, .inl (fun _ => 0)))] := hD
  refine va_putF (D := D) (ci := 1) (v := .ref q3) (ty := .array .int) (C := RX1) (T := TX1) (N := 8) hx hb hts inlX1 tyX1 tyX1_ok nmX1 hC.2.2.2.1 hK hP hD hS 0 rfl rfl 6 (by decide) (hts _ mw_29) (fun _ h9 => h9) rfl hin rfl (by decide +kernel) rfl rfl (Nat.le_of_ble_eq_true rfl) dX1_init_33 (fun H locs hP hD hS => ?_)
  have hP : va_P D vwCl [(h0, .inr (1, [.int 0, .int 0, .int 0, .ref q0, .ref q1, .ref q2, .ref q3, .null])), (q0, .inl (c0, 8, .inl (fun _ => 0))), (q1, .inl (c0, 8, .inl (fun _ => 0))), (q2, .inl (c0, 8, .inl (fun _ => 0))), (q3, .inl (c0, 71, .inl (fun _ => 0)))] H := hP
  have hD : va_D _ [(h0, .inr (1, [.int 0, .int 0, .int 0, .ref q0, .ref q1, .ref q2, .ref q3, .null])), (q0, .inl (c0, 8, .inl (fun _ => 0))), (q1, .inl (c0, 8, .inl (fun _ => 0))), (q2, .inl (c0, 8, .inl (fun _ => 0))), (q3, .inl (c0, 71, .inl (fun _ => 0)))] := hD
  refine lv_aload_n hx hb dX1_init_36 rfl (lv_at hl 0 rfl) ?_
  refine lv_bipush (v := 71) hx hb dX1_init_37 (by decide) ?_
  refine va_newa (atype := .int) (ty := .int) hx hb (hts _ (List.mem_of_getElem? (i := 13) (by decide +kernel))) rfl hK hP hD hS hA (N' := 71) (a0 := (71, .inl (fun _ => 0))) (fun _ => rfl) (by decide) (by decide) (by decide) (Nat.le_of_ble_eq_true rfl) (Nat.le_of_ble_eq_true rfl) dX1_init_39 (fun q4 c4 H hK hP hD hS => ?_)
  have ec := nm_eq (hK.2 0 (c0, .int) rfl).2 (hK.2 4 (c4, .int) rfl).2
  subst ec
  have hP : va_P D vwCl [(h0, .inr (1, [.int 0, .int 0, .int 0, .ref q0, .ref q1, .ref q2, .ref q3, .null])), (q0, .inl (c0, 8, .inl (fun _ => 0))), (q1, .inl (c0, 8, .inl (fun _ => 0))), (q2, .inl (c0, 8, .inl (fun _ => 0))), (q3, .inl (c0, 71, .inl (fun _ => 0))), (q4, .inl (c0, 71, .inl (fun _ => 0)))] H := hP
  have hD : va_D _ [(h0, .inr (1, [.int 0, .int 0, .int 0, .ref q0, .ref q1, .ref q2, .ref q3, .null])), (q0, .inl (c0, 8, .inl (fun _ => 0))), (q1, .inl (c0, 8, .inl (fun _ => 0))), (q2, .inl (c0, 8, .inl (fun _ => 0))), (q3, .inl (c0, 71, .inl (fun _ => 0))), (q4, .inl (c0, 71, .inl (fun _ => 0)))] := hD
  refine va_putF (D := D) (ci := 1) (v := .ref q4) (ty := .array .int) (C := RX1) (T := TX1) (N := 8) hx hb hts inlX1 tyX1 tyX1_ok nmX1 hC.2.2.2.1 hK hP hD hS 0 rfl rfl 7 (by decide) (hts _ mw_30) (fun _ h9 => h9) rfl hin rfl (by decide +kernel) rfl rfl (Nat.le_of_ble_eq_true rfl) dX1_init_41 (fun H locs hP hD hS => ?_)
  have hP : va_P D vwCl [(h0, .inr (1, [.int 0, .int 0, .int 0, .ref q0, .ref q1, .ref q2, .ref q3, .ref q4])), (q0, .inl (c0, 8, .inl (fun _ => 0))), (q1, .inl (c0, 8, .inl (fun _ => 0))), (q2, .inl (c0, 8, .inl (fun _ => 0))), (q3, .inl (c0, 71, .inl (fun _ => 0))), (q4, .inl (c0, 71, .inl (fun _ => 0)))] H := hP
  have hD : va_D _ [(h0, .inr (1, [.int 0, .int 0, .int 0, .ref q0, .ref q1, .ref q2, .ref q3, .ref q4])), (q0, .inl (c0, 8, .inl (fun _ => 0))), (q1, .inl (c0, 8, .inl (fun _ => 0))), (q2, .inl (c0, 8, .inl (fun _ => 0))), (q3, .inl (c0, 71, .inl (fun _ => 0))), (q4, .inl (c0, 71, .inl (fun _ => 0)))] := hD
  have hW := MW_of (b := bof q0 q1 q2 q3 q4 h0) (cI := c0) (N := fun _ _ => 0) (hK.sub [0] rfl) hP hD
  refine W.widen (k := 5) (n := 166) (Nat.le_of_ble_eq_true rfl) (Nat.le_of_ble_eq_true rfl) ?_
  exact W.vret hx hb hr (fun t ht hW1 => ⟨rfl, ⟨c0, bof q0 q1 q2 q3 q4 h0, rfl, fun k hk => (hW.2 k (by omega)).elim (fun z => absurd (hW.1.2.2 k 5 (by omega) (by omega) z) (by omega)) (fun z => z), by rw [ht]; exact hW.1.moved hW1.alike⟩, hS.F ht⟩) hS.2.2 dX1_init_44 hlocks
def iP_X0 (D : va_G) (h0 sz : Nat) (U : State) : Prop := U.heap.size = sz ∧ va_K D vwCl [] U ∧ va_AOA .int U ∧ va_P D vwCl [(h0, .inr (0, [.null, .null, .null, .null, .null, .null, .null, .int 0, .int 0, .int 0]))] U.heap
def iQ_X0 (D : va_G) (h0 sz : Nat) : Array Value → State → Outcome → State → Prop := fun _ st oc t => oc = .returned none ∧ (∃ (cI cQ : ClassId) (a : Nat → Nat), a 13 = h0 ∧ (∀ k, k < 13 → sz ≤ a k) ∧ BW D cI cQ a (fun _ _ => 0) t t.heap) ∧ va_F (fun q => q = h0 ∨ sz ≤ q) st t
set_option maxHeartbeats 4000000 in
set_option maxRecDepth 100000 in
theorem i_X0 (l : Launch) (D : va_G) (h0 sz : Nat) : Met l yX0_init (wq yX0_init cX0_init 1 none) ({ frames := 1, cells := 13, slots := 100, locals := 32 } : Room) (va_Pc [.ref h0] (iP_X0 D h0 sz)) (iQ_X0 D h0 sz) 13 100 (fun q => q = h0 ∨ sz ≤ q) := by
  refine Met.ofW (cc := cX0_init) (maxL := 1) (ret := none) (by decide) rfl ?_
  intro p e s m args below meth c s₁ B hml hv
  obtain ⟨rfl, hsz, hK, hAO, hP⟩ := hv
  subst hsz
  have hC : CallFix p m c cX0_init 1 s (List.toArray [.ref h0]) wsL_law RX0 := ⟨B.exec, B.bytes, hml, findClass_of_methodNamed B.named, fun w h => atoms_spec (ws := wq yX0_init cX0_init 1 none) B.pre w (List.mem_cons_of_mem _ h)⟩
  have hin : meth.name = "<init>" := (name_of_methodNamed B.named B.method).1
  have hr := B.returns
  have hlocks := B.notSynchronized
  have hx := hC.1
  have hb := hC.2.1
  have hts := hC.2.2.2.2
  have hA : ∀ q : Nat, s.heap.size ≤ q → (fun q => q = h0 ∨ s.heap.size ≤ q) q := fun q h => Or.inr h
  have hS : va_S (fun q => q = h0 ∨ s.heap.size ≤ q) s.heap s.heap [] := va_S.rf
  have hD : va_D (fun q => q = h0 ∨ s.heap.size ≤ q) [(h0, .inr (0, [.null, .null, .null, .null, .null, .null, .null, .int 0, .int 0, .int 0]))] := D_one (Or.inl rfl)
  have hl := lv_entry ([.ref h0]) (n := 1) (Nat.le_of_ble_eq_true rfl)
  rw [lg_entry_eq]
  generalize (lg_sl ([.ref h0]) ++ List.replicate (1 - (lg_sl ([.ref h0])).length) Slot.unset).toArray = ls at hl ⊢
  have hl : lv_has ls 1 [(0, .ref h0)] := hl
  refine lv_aload_n hx hb dX0_init_0 rfl (lv_at hl 0 rfl) ?_
  refine W.objInit hx hb hC.2.2.2.1 (hts _ (List.mem_of_getElem? (i := 10) (by decide +kernel))) (hts _ (List.mem_of_getElem? (i := 11) (by decide +kernel))) (hts _ (List.mem_of_getElem? (i := 12) (by decide +kernel))) rfl (by rw [hml]; exact hl.1) rfl dX0_init_1 (Nat.le_of_ble_eq_true rfl) (Nat.le_of_ble_eq_true rfl) ?_
  refine W.eq (g2 := F0 m 4 ls []) rfl ?_
  refine lv_aload_n hx hb dX0_init_4 rfl (lv_at hl 0 rfl) ?_
  refine lv_bipush (v := 8) hx hb dX0_init_5 (by decide) ?_
  refine va_newa (atype := .int) (ty := .int) hx hb (hts _ (List.mem_of_getElem? (i := 13) (by decide +kernel))) rfl hK hP hD hS hA (N' := 8) (a0 := (8, .inl (fun _ => 0))) (fun _ => rfl) (by decide) (by decide) (by decide) (Nat.le_of_ble_eq_true rfl) (Nat.le_of_ble_eq_true rfl) dX0_init_7 (fun q0 c0 H hK hP hD hS => ?_)
  have hP : va_P D vwCl [(h0, .inr (0, [.null, .null, .null, .null, .null, .null, .null, .int 0, .int 0, .int 0])), (q0, .inl (c0, 8, .inl (fun _ => 0)))] H := hP
  have hD : va_D _ [(h0, .inr (0, [.null, .null, .null, .null, .null, .null, .null, .int 0, .int 0, .int 0])), (q0, .inl (c0, 8, .inl (fun _ => 0)))] := hD
  refine va_putF (D := D) (ci := 0) (v := .ref q0) (ty := .array .int) (C := RX0) (T := TX0) (N := 10) hx hb hts inlX0 tyX0 tyX0_ok nmX0 hC.2.2.2.1 hK hP hD hS 0 rfl rfl 0 (by decide) (hts _ mw_14) (fun _ h9 => h9) rfl hin rfl (by decide +kernel) rfl rfl (Nat.le_of_ble_eq_true rfl) dX0_init_9 (fun H locs hP hD hS => ?_)
  have hP : va_P D vwCl [(h0, .inr (0, [.ref q0, .null, .null, .null, .null, .null, .null, .int 0, .int 0, .int 0])), (q0, .inl (c0, 8, .inl (fun _ => 0)))] H := hP
  have hD : va_D _ [(h0, .inr (0, [.ref q0, .null, .null, .null, .null, .null, .null, .int 0, .int 0, .int 0])), (q0, .inl (c0, 8, .inl (fun _ => 0)))] := hD
  refine lv_aload_n hx hb dX0_init_12 rfl (lv_at hl 0 rfl) ?_
  refine lv_bipush (v := 8) hx hb dX0_init_13 (by decide) ?_
  refine va_newa (atype := .int) (ty := .int) hx hb (hts _ (List.mem_of_getElem? (i := 13) (by decide +kernel))) rfl hK hP hD hS hA (N' := 8) (a0 := (8, .inl (fun _ => 0))) (fun _ => rfl) (by decide) (by decide) (by decide) (Nat.le_of_ble_eq_true rfl) (Nat.le_of_ble_eq_true rfl) dX0_init_15 (fun q1 c1 H hK hP hD hS => ?_)
  have ec := nm_eq (hK.2 0 (c0, .int) rfl).2 (hK.2 1 (c1, .int) rfl).2
  subst ec
  have hP : va_P D vwCl [(h0, .inr (0, [.ref q0, .null, .null, .null, .null, .null, .null, .int 0, .int 0, .int 0])), (q0, .inl (c0, 8, .inl (fun _ => 0))), (q1, .inl (c0, 8, .inl (fun _ => 0)))] H := hP
  have hD : va_D _ [(h0, .inr (0, [.ref q0, .null, .null, .null, .null, .null, .null, .int 0, .int 0, .int 0])), (q0, .inl (c0, 8, .inl (fun _ => 0))), (q1, .inl (c0, 8, .inl (fun _ => 0)))] := hD
  refine va_putF (D := D) (ci := 0) (v := .ref q1) (ty := .array .int) (C := RX0) (T := TX0) (N := 10) hx hb hts inlX0 tyX0 tyX0_ok nmX0 hC.2.2.2.1 hK hP hD hS 0 rfl rfl 1 (by decide) (hts _ mw_15) (fun _ h9 => h9) rfl hin rfl (by decide +kernel) rfl rfl (Nat.le_of_ble_eq_true rfl) dX0_init_17 (fun H locs hP hD hS => ?_)
  have hP : va_P D vwCl [(h0, .inr (0, [.ref q0, .ref q1, .null, .null, .null, .null, .null, .int 0, .int 0, .int 0])), (q0, .inl (c0, 8, .inl (fun _ => 0))), (q1, .inl (c0, 8, .inl (fun _ => 0)))] H := hP
  have hD : va_D _ [(h0, .inr (0, [.ref q0, .ref q1, .null, .null, .null, .null, .null, .int 0, .int 0, .int 0])), (q0, .inl (c0, 8, .inl (fun _ => 0))), (q1, .inl (c0, 8, .inl (fun _ => 0)))] := hD
  refine lv_aload_n hx hb dX0_init_20 rfl (lv_at hl 0 rfl) ?_
  refine lv_bipush (v := 8) hx hb dX0_init_21 (by decide) ?_
  refine va_newa (atype := .int) (ty := .int) hx hb (hts _ (List.mem_of_getElem? (i := 13) (by decide +kernel))) rfl hK hP hD hS hA (N' := 8) (a0 := (8, .inl (fun _ => 0))) (fun _ => rfl) (by decide) (by decide) (by decide) (Nat.le_of_ble_eq_true rfl) (Nat.le_of_ble_eq_true rfl) dX0_init_23 (fun q2 c2 H hK hP hD hS => ?_)
  have ec := nm_eq (hK.2 0 (c0, .int) rfl).2 (hK.2 2 (c2, .int) rfl).2
  subst ec
  have hP : va_P D vwCl [(h0, .inr (0, [.ref q0, .ref q1, .null, .null, .null, .null, .null, .int 0, .int 0, .int 0])), (q0, .inl (c0, 8, .inl (fun _ => 0))), (q1, .inl (c0, 8, .inl (fun _ => 0))), (q2, .inl (c0, 8, .inl (fun _ => 0)))] H := hP
  have hD : va_D _ [(h0, .inr (0, [.ref q0, .ref q1, .null, .null, .null, .null, .null, .int 0, .int 0, .int 0])), (q0, .inl (c0, 8, .inl (fun _ => 0))), (q1, .inl (c0, 8, .inl (fun _ => 0))), (q2, .inl (c0, 8, .inl (fun _ => 0)))] := hD
  refine va_putF (D := D) (ci := 0) (v := .ref q2) (ty := .array .int) (C := RX0) (T := TX0) (N := 10) hx hb hts inlX0 tyX0 tyX0_ok nmX0 hC.2.2.2.1 hK hP hD hS 0 rfl rfl 2 (by decide) (hts _ mw_16) (fun _ h9 => h9) rfl hin rfl (by decide +kernel) rfl rfl (Nat.le_of_ble_eq_true rfl) dX0_init_25 (fun H locs hP hD hS => ?_)
  have hP : va_P D vwCl [(h0, .inr (0, [.ref q0, .ref q1, .ref q2, .null, .null, .null, .null, .int 0, .int 0, .int 0])), (q0, .inl (c0, 8, .inl (fun _ => 0))), (q1, .inl (c0, 8, .inl (fun _ => 0))), (q2, .inl (c0, 8, .inl (fun _ => 0)))] H := hP
  have hD : va_D _ [(h0, .inr (0, [.ref q0, .ref q1, .ref q2, .null, .null, .null, .null, .int 0, .int 0, .int 0])), (q0, .inl (c0, 8, .inl (fun _ => 0))), (q1, .inl (c0, 8, .inl (fun _ => 0))), (q2, .inl (c0, 8, .inl (fun _ => 0)))] := hD
  refine lv_aload_n hx hb dX0_init_28 rfl (lv_at hl 0 rfl) ?_
  refine lv_bipush (v := 8) hx hb dX0_init_29 (by decide) ?_
  refine va_newa (atype := .int) (ty := .int) hx hb (hts _ (List.mem_of_getElem? (i := 13) (by decide +kernel))) rfl hK hP hD hS hA (N' := 8) (a0 := (8, .inl (fun _ => 0))) (fun _ => rfl) (by decide) (by decide) (by decide) (Nat.le_of_ble_eq_true rfl) (Nat.le_of_ble_eq_true rfl) dX0_init_31 (fun q3 c3 H hK hP hD hS => ?_)
  have ec := nm_eq (hK.2 0 (c0, .int) rfl).2 (hK.2 3 (c3, .int) rfl).2
  subst ec
  have hP : va_P D vwCl [(h0, .inr (0, [.ref q0, .ref q1, .ref q2, .null, .null, .null, .null, .int 0, .int 0, .int 0])), (q0, .inl (c0, 8, .inl (fun _ => 0))), (q1, .inl (c0, 8, .inl (fun _ => 0))), (q2, .inl (c0, 8, .inl (fun _ => 0))), (q3, .inl (c0, 8, .inl (fun _ => 0)))] H := hP
  have hD : va_D _ [(h0, .inr (0, [.ref q0, .ref q1, .ref q2, .null, .null, .null, .null, .int 0, .int 0, .int 0])), (q0, .inl (c0, 8, .inl (fun _ => 0))), (q1, .inl (c0, 8, .inl (fun _ => 0))), (q2, .inl (c0, 8, .inl (fun _ => 0))), (q3, .inl (c0, 8, .inl (fun _ => 0)))] := hD
  refine va_putF (D := D) (ci := 0) (v := .ref q3) (ty := .array .int) (C := RX0) (T := TX0) (N := 10) hx hb hts inlX0 tyX0 tyX0_ok nmX0 hC.2.2.2.1 hK hP hD hS 0 rfl rfl 3 (by decide) (hts _ mw_17) (fun _ h9 => h9) rfl hin rfl (by decide +kernel) rfl rfl (Nat.le_of_ble_eq_true rfl) dX0_init_33 (fun H locs hP hD hS => ?_)
  have hP : va_P D vwCl [(h0, .inr (0, [.ref q0, .ref q1, .ref q2, .ref q3, .null, .null, .null, .int 0, .int 0, .int 0])), (q0, .inl (c0, 8, .inl (fun _ => 0))), (q1, .inl (c0, 8, .inl (fun _ => 0))), (q2, .inl (c0, 8, .inl (fun _ => 0))), (q3, .inl (c0, 8, .inl (fun _ => 0)))] H := hP
  have hD : va_D _ [(h0, .inr (0, [.ref q0, .ref q1, .ref q2, .ref q3, .null, .null, .null, .int 0, .int 0, .int 0])), (q0, .inl (c0, 8, .inl (fun _ => 0))), (q1, .inl (c0, 8, .inl (fun _ => 0))), (q2, .inl (c0, 8, .inl (fun _ => 0))), (q3, .inl (c0, 8, .inl (fun _ => 0)))] := hD
  refine lv_aload_n hx hb dX0_init_36 rfl (lv_at hl 0 rfl) ?_
  refine lv_bipush (v := 8) hx hb dX0_init_37 (by decide) ?_
  refine va_newa (atype := .int) (ty := .int) hx hb (hts _ (List.mem_of_getElem? (i := 13) (by decide +kernel))) rfl hK hP hD hS hA (N' := 8) (a0 := (8, .inl (fun _ => 0))) (fun _ => rfl) (by decide) (by decide) (by decide) (Nat.le_of_ble_eq_true rfl) (Nat.le_of_ble_eq_true rfl) dX0_init_39 (fun q4 c4 H hK hP hD hS => ?_)
  have ec := nm_eq (hK.2 0 (c0, .int) rfl).2 (hK.2 4 (c4, .int) rfl).2
  subst ec
  have hP : va_P D vwCl [(h0, .inr (0, [.ref q0, .ref q1, .ref q2, .ref q3, .null, .null, .null, .int 0, .int 0, .int 0])), (q0, .inl (c0, 8, .inl (fun _ => 0))), (q1, .inl (c0, 8, .inl (fun _ => 0))), (q2, .inl (c0, 8, .inl (fun _ => 0))), (q3, .inl (c0, 8, .inl (fun _ => 0))), (q4, .inl (c0, 8, .inl (fun _ => 0)))] H := hP
  have hD : va_D _ [(h0, .inr (0, [.ref q0, .ref q1, .ref q2, .ref q3, .null, .null, .null, .int 0, .int 0, .int 0])), (q0, .inl (c0, 8, .inl (fun _ => 0))), (q1, .inl (c0, 8, .inl (fun _ => 0))), (q2, .inl (c0, 8, .inl (fun _ => 0))), (q3, .inl (c0, 8, .inl (fun _ => 0))), (q4, .inl (c0, 8, .inl (fun _ => 0)))] := hD
  refine va_putF (D := D) (ci := 0) (v := .ref q4) (ty := .array .int) (C := RX0) (T := TX0) (N := 10) hx hb hts inlX0 tyX0 tyX0_ok nmX0 hC.2.2.2.1 hK hP hD hS 0 rfl rfl 4 (by decide) (hts _ mw_18) (fun _ h9 => h9) rfl hin rfl (by decide +kernel) rfl rfl (Nat.le_of_ble_eq_true rfl) dX0_init_41 (fun H locs hP hD hS => ?_)
  have hP : va_P D vwCl [(h0, .inr (0, [.ref q0, .ref q1, .ref q2, .ref q3, .ref q4, .null, .null, .int 0, .int 0, .int 0])), (q0, .inl (c0, 8, .inl (fun _ => 0))), (q1, .inl (c0, 8, .inl (fun _ => 0))), (q2, .inl (c0, 8, .inl (fun _ => 0))), (q3, .inl (c0, 8, .inl (fun _ => 0))), (q4, .inl (c0, 8, .inl (fun _ => 0)))] H := hP
  have hD : va_D _ [(h0, .inr (0, [.ref q0, .ref q1, .ref q2, .ref q3, .ref q4, .null, .null, .int 0, .int 0, .int 0])), (q0, .inl (c0, 8, .inl (fun _ => 0))), (q1, .inl (c0, 8, .inl (fun _ => 0))), (q2, .inl (c0, 8, .inl (fun _ => 0))), (q3, .inl (c0, 8, .inl (fun _ => 0))), (q4, .inl (c0, 8, .inl (fun _ => 0)))] := hD
  refine lv_aload_n hx hb dX0_init_44 rfl (lv_at hl 0 rfl) ?_
  refine lv_bipush (v := 6) hx hb dX0_init_45 (by decide) ?_
  refine va_newa (atype := .int) (ty := .int) hx hb (hts _ (List.mem_of_getElem? (i := 13) (by decide +kernel))) rfl hK hP hD hS hA (N' := 6) (a0 := (6, .inl (fun _ => 0))) (fun _ => rfl) (by decide) (by decide) (by decide) (Nat.le_of_ble_eq_true rfl) (Nat.le_of_ble_eq_true rfl) dX0_init_47 (fun q5 c5 H hK hP hD hS => ?_)
  have ec := nm_eq (hK.2 0 (c0, .int) rfl).2 (hK.2 5 (c5, .int) rfl).2
  subst ec
  have hP : va_P D vwCl [(h0, .inr (0, [.ref q0, .ref q1, .ref q2, .ref q3, .ref q4, .null, .null, .int 0, .int 0, .int 0])), (q0, .inl (c0, 8, .inl (fun _ => 0))), (q1, .inl (c0, 8, .inl (fun _ => 0))), (q2, .inl (c0, 8, .inl (fun _ => 0))), (q3, .inl (c0, 8, .inl (fun _ => 0))), (q4, .inl (c0, 8, .inl (fun _ => 0))), (q5, .inl (c0, 6, .inl (fun _ => 0)))] H := hP
  have hD : va_D _ [(h0, .inr (0, [.ref q0, .ref q1, .ref q2, .ref q3, .ref q4, .null, .null, .int 0, .int 0, .int 0])), (q0, .inl (c0, 8, .inl (fun _ => 0))), (q1, .inl (c0, 8, .inl (fun _ => 0))), (q2, .inl (c0, 8, .inl (fun _ => 0))), (q3, .inl (c0, 8, .inl (fun _ => 0))), (q4, .inl (c0, 8, .inl (fun _ => 0))), (q5, .inl (c0, 6, .inl (fun _ => 0)))] := hD
  refine va_putF (D := D) (ci := 0) (v := .ref q5) (ty := .array .int) (C := RX0) (T := TX0) (N := 10) hx hb hts inlX0 tyX0 tyX0_ok nmX0 hC.2.2.2.1 hK hP hD hS 0 rfl rfl 5 (by decide) (hts _ mw_19) (fun _ h9 => h9) rfl hin rfl (by decide +kernel) rfl rfl (Nat.le_of_ble_eq_true rfl) dX0_init_49 (fun H locs hP hD hS => ?_)
  have hP : va_P D vwCl [(h0, .inr (0, [.ref q0, .ref q1, .ref q2, .ref q3, .ref q4, .ref q5, .null, .int 0, .int 0, .int 0])), (q0, .inl (c0, 8, .inl (fun _ => 0))), (q1, .inl (c0, 8, .inl (fun _ => 0))), (q2, .inl (c0, 8, .inl (fun _ => 0))), (q3, .inl (c0, 8, .inl (fun _ => 0))), (q4, .inl (c0, 8, .inl (fun _ => 0))), (q5, .inl (c0, 6, .inl (fun _ => 0)))] H := hP
  have hD : va_D _ [(h0, .inr (0, [.ref q0, .ref q1, .ref q2, .ref q3, .ref q4, .ref q5, .null, .int 0, .int 0, .int 0])), (q0, .inl (c0, 8, .inl (fun _ => 0))), (q1, .inl (c0, 8, .inl (fun _ => 0))), (q2, .inl (c0, 8, .inl (fun _ => 0))), (q3, .inl (c0, 8, .inl (fun _ => 0))), (q4, .inl (c0, 8, .inl (fun _ => 0))), (q5, .inl (c0, 6, .inl (fun _ => 0)))] := hD
  refine lv_aload_n hx hb dX0_init_52 rfl (lv_at hl 0 rfl) ?_
  refine lv_bipush (v := 6) hx hb dX0_init_53 (by decide) ?_
  refine lv_bipush (v := 8) hx hb dX0_init_55 (by decide) ?_
  refine va_mna (X := [(h0, .inr (0, [.ref q0, .ref q1, .ref q2, .ref q3, .ref q4, .ref q5, .null, .int 0, .int 0, .int 0])), (q0, .inl (c0, 8, .inl (fun _ => 0))), (q1, .inl (c0, 8, .inl (fun _ => 0))), (q2, .inl (c0, 8, .inl (fun _ => 0))), (q3, .inl (c0, 8, .inl (fun _ => 0))), (q4, .inl (c0, 8, .inl (fun _ => 0))), (q5, .inl (c0, 6, .inl (fun _ => 0)))]) (L := []) (f := fun _ => .inl (c0, 8, .inl (fun _ => 0))) (ty := .int) hx hb hC.2.2.2.1 (hts _ (List.mem_of_getElem? (i := 20) (by decide +kernel))) hAO (hts _ (List.mem_of_getElem? (i := 13) (by decide +kernel))) (cy := c0) (va_nm_int (hK.2 0 (c0, .int) rfl).2) hK (by show va_P D vwCl (_ ++ []) H; rw [List.append_nil]; exact hP) (by show va_D _ (_ ++ []); rw [List.append_nil]; exact hD) hS hA (N' := 6) (K' := 8) (z := (8, .inl (fun _ => 0))) (by decide) (by decide) (by decide) (by decide) (by decide) (by decide) (by decide) (by decide) (by decide) (Nat.le_of_ble_eq_true rfl) (Nat.le_of_ble_eq_true rfl) (fun _ => rfl) dX0_init_57 (fun q6 r cQ H hri hrL hK hP hD hS => ?_)
  rw [pl_const] at hP hD
  have hP : va_P D vwCl [(h0, .inr (0, [.ref q0, .ref q1, .ref q2, .ref q3, .ref q4, .ref q5, .null, .int 0, .int 0, .int 0])), (q0, .inl (c0, 8, .inl (fun _ => 0))), (q1, .inl (c0, 8, .inl (fun _ => 0))), (q2, .inl (c0, 8, .inl (fun _ => 0))), (q3, .inl (c0, 8, .inl (fun _ => 0))), (q4, .inl (c0, 8, .inl (fun _ => 0))), (q5, .inl (c0, 6, .inl (fun _ => 0))), (q6, .inl (cQ, 6, .inr (.inr (.inr (.inr (fun i => if i < 6 then some (r i) else none)))))), (r 0, .inl (c0, 8, .inl (fun _ => 0))), (r 1, .inl (c0, 8, .inl (fun _ => 0))), (r 2, .inl (c0, 8, .inl (fun _ => 0))), (r 3, .inl (c0, 8, .inl (fun _ => 0))), (r 4, .inl (c0, 8, .inl (fun _ => 0))), (r 5, .inl (c0, 8, .inl (fun _ => 0)))] H := hP
  have hD : va_D _ [(h0, .inr (0, [.ref q0, .ref q1, .ref q2, .ref q3, .ref q4, .ref q5, .null, .int 0, .int 0, .int 0])), (q0, .inl (c0, 8, .inl (fun _ => 0))), (q1, .inl (c0, 8, .inl (fun _ => 0))), (q2, .inl (c0, 8, .inl (fun _ => 0))), (q3, .inl (c0, 8, .inl (fun _ => 0))), (q4, .inl (c0, 8, .inl (fun _ => 0))), (q5, .inl (c0, 6, .inl (fun _ => 0))), (q6, .inl (cQ, 6, .inr (.inr (.inr (.inr (fun i => if i < 6 then some (r i) else none)))))), (r 0, .inl (c0, 8, .inl (fun _ => 0))), (r 1, .inl (c0, 8, .inl (fun _ => 0))), (r 2, .inl (c0, 8, .inl (fun _ => 0))), (r 3, .inl (c0, 8, .inl (fun _ => 0))), (r 4, .inl (c0, 8, .inl (fun _ => 0))), (r 5, .inl (c0, 8, .inl (fun _ => 0)))] := hD
  refine va_putF (D := D) (ci := 0) (v := .ref q6) (ty := .array (.array .int)) (C := RX0) (T := TX0) (N := 10) hx hb hts inlX0 tyX0 tyX0_ok nmX0 hC.2.2.2.1 hK hP hD hS 0 rfl rfl 6 (by decide) (hts _ mw_21) (fun _ h9 => h9) rfl hin rfl (by decide +kernel) rfl rfl (Nat.le_of_ble_eq_true rfl) dX0_init_61 (fun H locs hP hD hS => ?_)
  have hP : va_P D vwCl [(h0, .inr (0, [.ref q0, .ref q1, .ref q2, .ref q3, .ref q4, .ref q5, .ref q6, .int 0, .int 0, .int 0])), (q0, .inl (c0, 8, .inl (fun _ => 0))), (q1, .inl (c0, 8, .inl (fun _ => 0))), (q2, .inl (c0, 8, .inl (fun _ => 0))), (q3, .inl (c0, 8, .inl (fun _ => 0))), (q4, .inl (c0, 8, .inl (fun _ => 0))), (q5, .inl (c0, 6, .inl (fun _ => 0))), (q6, .inl (cQ, 6, .inr (.inr (.inr (.inr (fun i => if i < 6 then some (r i) else none)))))), (r 0, .inl (c0, 8, .inl (fun _ => 0))), (r 1, .inl (c0, 8, .inl (fun _ => 0))), (r 2, .inl (c0, 8, .inl (fun _ => 0))), (r 3, .inl (c0, 8, .inl (fun _ => 0))), (r 4, .inl (c0, 8, .inl (fun _ => 0))), (r 5, .inl (c0, 8, .inl (fun _ => 0)))] H := hP
  have hD : va_D _ [(h0, .inr (0, [.ref q0, .ref q1, .ref q2, .ref q3, .ref q4, .ref q5, .ref q6, .int 0, .int 0, .int 0])), (q0, .inl (c0, 8, .inl (fun _ => 0))), (q1, .inl (c0, 8, .inl (fun _ => 0))), (q2, .inl (c0, 8, .inl (fun _ => 0))), (q3, .inl (c0, 8, .inl (fun _ => 0))), (q4, .inl (c0, 8, .inl (fun _ => 0))), (q5, .inl (c0, 6, .inl (fun _ => 0))), (q6, .inl (cQ, 6, .inr (.inr (.inr (.inr (fun i => if i < 6 then some (r i) else none)))))), (r 0, .inl (c0, 8, .inl (fun _ => 0))), (r 1, .inl (c0, 8, .inl (fun _ => 0))), (r 2, .inl (c0, 8, .inl (fun _ => 0))), (r 3, .inl (c0, 8, .inl (fun _ => 0))), (r 4, .inl (c0, 8, .inl (fun _ => 0))), (r 5, .inl (c0, 8, .inl (fun _ => 0)))] := hD
  rw [← aof_r (q0 := q0) (q1 := q1) (q2 := q2) (q3 := q3) (q4 := q4) (q5 := q5) (q6 := q6) (h0 := h0)] at hP hD
  have hW := BW_of (a := aof q0 q1 q2 q3 q4 q5 q6 h0 r) (cI := c0) (cQ := cQ) (S := fun _ _ => 0) (hK.sub [0, 6] rfl) hP hD
  refine W.widen (k := 13) (n := 100) (Nat.le_of_ble_eq_true rfl) (Nat.le_of_ble_eq_true rfl) ?_
  exact W.vret hx hb hr (fun t ht hW1 => ⟨rfl, ⟨c0, cQ, aof q0 q1 q2 q3 q4 q5 q6 h0 r, rfl, fun k hk => (hW.2 k (by omega)).elim (fun z => absurd (hW.1.2.2 k 13 (by omega) (by omega) z) (by omega)) (fun z => z), by rw [ht]; exact hW.1.moved hW1.alike⟩, hS.F ht⟩) hS.2.2 dX0_init_64 hlocks
